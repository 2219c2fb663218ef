import java.util.ArrayList;
import java.util.List;

/** Part 1 of the terms, and the promises of a new object, type, clear and shop: each edge by its sentence. */
public final class TextEdgeTests {
    private static final int BAD = -1;
    private static final int FULL = -3;
    private static final String STEP = "s1 0 1 0;";
    private static final String BLANKS = " ".repeat(150);
    /** Every number that a step or a price may be is below these; the last three are 1 if they wrap around. */
    private static final String[] BEYOND = {"100", "101", "109", "110", "199", "200", "256", "257", "999", "1000",
        "65537", "4294967297", "18446744073709551617"};

    private TextEdgeTests() {
    }

    public static void main(String[] args) {
        newObject();
        fiveSteps();
        seconds();
        faultOfTen();
        lookSeconds();
        missOfTen();
        price();
        priceAtFirst();
        twosOfSteps();
        bytesAtMost();
        blanksBetween();
        blanksAre32();
        fourNumbersOfAStep();
        endedBySemicolon();
        itemsOfNone();
        itemsOfMany();
        toldAhead();
        stepsStandAhead();
        onceAtMost();
        lettersSideBySide();
        firstTokenThatCantStand();
        firstOfSeveralFaults();
        lettersThatBeginNoItem();
        sixthStep();
        priceAgain();
        notAbove();
        numberBeyond();
        byteThatBeginsNone();
        numberAbove99();
        zeroAheadOfOthers();
        endsTooEarly();
        byteTyped();
        cleared();
        emptyThen();
        placeOfFault();
        nothingOfAFaultStays();
        Check.end("TextEdgeTests");
    }

    private static void is(String what, long got, long due) {
        Document.is(what, got, due);
    }

    private static int shop(String text) {
        return Check.shop(new NeedleHands(), text);
    }

    private static void taken(String text, int items) {
        is("'" + text + "' is taken", shop(text), items);
    }

    private static void fault(String text, int place) {
        is("fault of '" + text + "'", shop(text), -10 - place);
    }

    private static void newObject() {
        Document.says("As told; no STEPS.");
        NeedleHands x = new NeedleHands();
        int[] counts = {0, 50, 0, 0, 0};
        for (int what = 0; what < counts.length; what++) {
            is("count " + what, x.count(what), counts[what]);
        }
        for (int what = 0; what <= 5; what++) {
            is("now " + what, x.now(what), 0);
        }
        is("there is no step 0", x.step(0, 0), BAD);
        is("none is the first", x.line(0), BAD);
        is("no image 0", x.back(0), -2);
        is("no image 1", x.back(1), -2);
        is("nothing to be undone", x.undo(), -2);
        is("no trace", x.trace(), 0);
    }

    private static void fiveSteps() {
        Document.says("(5 of them at most)");
        for (int n = 0; n <= 5; n++) {
            NeedleHands x = Check.told(STEP.repeat(n));
            is("steps of " + n, x.count(0), n);
            is("the last of " + n, x.step(n - 1, 0), n == 0 ? BAD : 1);
            is("beyond the last of " + n, x.step(n, 0), BAD);
        }
        fault(STEP.repeat(6), 45);
        fault(STEP.repeat(9), 45);
    }

    /** Of a text with a hole all numbers are taken from least to most, and none beyond. */
    private static void numbers(String front, String behind, int least, int most, int what) {
        for (int n = 0; n <= 99; n++) {
            NeedleHands x = new NeedleHands();
            int answer = Check.shop(x, front + n + behind);
            boolean may = n >= least && n <= most;
            is(front + n + behind, answer, may ? 1 : -10 - front.length());
            is(front + n + behind + " then", what < 0 ? x.count(1) : x.step(0, what), told(may, n, what));
        }
        for (String beyond : BEYOND) {
            fault(front + beyond + behind, front.length());
        }
        fault(front + "-1" + behind, front.length());
        fault(front + behind, front.length() + blanksAhead(behind));
    }

    private static int told(boolean may, int n, int what) {
        if (may) {
            return n;
        }
        return what < 0 ? 50 : BAD;
    }

    private static int blanksAhead(String text) {
        return text.length() - text.stripLeading().length();
    }

    private static void seconds() {
        Document.says("SECONDS (1 .. 99)");
        numbers("s", " 0 1 0;", 1, 99, 0);
    }

    private static void faultOfTen() {
        Document.says("FAULT (0 .. 9 of 10)");
        numbers("s1 ", " 10 0;", 0, 9, 1);
    }

    private static void lookSeconds() {
        Document.says("LOOK (1 .. 30 seconds)");
        numbers("s1 0 ", " 0;", 1, 30, 2);
    }

    private static void missOfTen() {
        Document.says("MISS (0 .. 9 of 10)");
        numbers("s1 0 1 ", ";", 0, 9, 3);
    }

    private static void price() {
        Document.says("PRICE of a DUD (0 .. 99;");
        numbers("p", ";", 0, 99, -1);
    }

    private static void priceAtFirst() {
        Document.says("50 at first)");
        NeedleHands x = new NeedleHands();
        is("of a new object", x.count(1), 50);
        Check.shop(x, STEP);
        is("of a text that tells none", x.count(1), 50);
        Check.shop(x, "p0;");
        is("of a text that tells 0", x.count(1), 0);
        Check.shop(x, "p99;" + STEP);
        is("of a text that tells 99", x.count(1), 99);
        Check.shop(x, STEP);
        is("of a text behind it that tells none", x.count(1), 50);
    }

    private static void twosOfSteps() {
        Document.says("AHEAD: twos of STEPS, the first of which must be done ahead of the other one.");
        for (int a = 0; a < 5; a++) {
            for (int b = a + 1; b < 5; b++) {
                NeedleHands x = Check.told(STEP.repeat(5) + "h" + a + " " + b + ";");
                for (int s = 0; s < 5; s++) {
                    is("h" + a + " " + b + " of " + s, x.step(s, 7), s == a ? 1 << b : 0);
                }
                for (int i = b; i > a + 1; i--) {
                    is(b + " goes ahead of " + (i - 1), x.moves(i), i - 1);
                }
                is(b + " can't go ahead of " + a, x.moves(a + 1), -2);
            }
        }
        NeedleHands all = Check.told(STEP.repeat(5) + "h0 1;h0 2;h0 3;h0 4;h1 2;h1 3;h1 4;h2 3;h2 4;h3 4;");
        int[] due = {30, 28, 24, 16, 0};
        for (int s = 0; s < 5; s++) {
            is("all twos of " + s, all.step(s, 7), due[s]);
            is("none goes ahead by all twos, " + s, all.moves(s), s == 0 ? BAD : -2);
        }
    }

    private static void bytesAtMost() {
        Document.says("a text (150 bytes at most)");
        NeedleHands x = new NeedleHands();
        for (int n = 1; n <= 150; n++) {
            is("byte " + n, x.type(n == 150 ? ';' : n == 149 ? '7' : n == 148 ? 'p' : ' '), n);
        }
        is("byte 151", x.type(';'), FULL);
        is("byte 151 again", x.type(' '), FULL);
        is("they are 150", x.count(4), 150);
        is("all 150 are read", x.shop(), 1);
        is("the last ones tell", x.count(1), 7);
        is("there is room again", x.type(' '), 1);
        is("149 of them end too early", shop(BLANKS.substring(0, 147) + "p7"), -159);
    }

    private static void blanksBetween() {
        Document.says("blanks (32) between TOKENS;");
        String[] tokens = "s 12 3 4 5 ; s 6 7 8 9 ; h 0 1 ; p 10 ;".split(" ");
        for (int blanks = 1; blanks <= 7; blanks++) {
            String gap = BLANKS.substring(0, blanks);
            String text = gap + String.join(gap, tokens) + gap;
            NeedleHands x = new NeedleHands();
            is("gaps of " + blanks, Check.shop(x, text.length() > 150 ? text.strip() : text), 4);
            is("gaps of " + blanks + " tell", x.step(0, 0) + x.step(1, 3) + x.step(0, 7) + x.count(1), 33);
        }
        taken("s12 3 4 5;s6 7 8 9;h0 1;p10;", 4);
        fault("s1 2 0 1 0;", 5);
        fault("p1 0;", 3);
        fault("p1 ;p 1;", 4);
        fault("s s1 0 1 0;", 2);
    }

    private static void blanksAre32() {
        Document.says("read byte by byte, blanks (32)");
        for (int c = 0; c <= 255; c++) {
            boolean isToken = c >= 'a' && c <= 'z' || c >= '0' && c <= '9' || c == ';';
            if (!isToken) {
                is("byte " + c + " between", shop("p" + (char) c + "7;"), c == 32 ? 1 : -11);
                is("byte " + c + " ahead", shop((char) c + "p7;"), c == 32 ? 1 : -10);
                is("byte " + c + " behind", shop("p7;" + (char) c), c == 32 ? 1 : -13);
            }
        }
    }

    private static void fourNumbersOfAStep() {
        Document.says("s S F L M (a step)");
        NeedleHands x = Check.told("s12 3 14 5;");
        int[] due = {12, 3, 14, 5};
        for (int what = 0; what <= 3; what++) {
            is("number " + what, x.step(0, what), due[what]);
        }
        fault("s;", 1);
        fault("s1;", 2);
        fault("s1 2;", 4);
        fault("s1 2 3;", 6);
        taken("s1 2 3 4;", 1);
        fault("s1 2 3 4 5;", 9);
        fault("h;", 1);
        fault(STEP + STEP + "h0;", 20);
        fault(STEP + STEP + "h0 1 1;", 23);
        fault("p;", 1);
        fault("p1 1;", 3);
    }

    private static void endedBySemicolon() {
        Document.says("ITEMS, each letters and what is told, ended by ;");
        fault("p1", 2);
        fault("p1 p2;", 3);
        fault("p1s1 0 1 0;", 2);
        fault("s1 0 1 0p1;", 8);
        fault(STEP + STEP + "h0 1h0 1;", 22);
        fault(";p1;", 0);
        fault("p1;;", 3);
        fault(STEP + ";", 9);
        taken("p1;", 1);
    }

    private static void itemsOfNone() {
        Document.says("how many ITEMS");
        NeedleHands x = Check.told(STEP + "p7;");
        is("an empty text", x.shop(), 0);
        is("of which no step is told", x.count(0), 0);
        is("and no price", x.count(1), 50);
        taken(" ", 0);
        taken(BLANKS, 0);
        taken(STEP, 1);
        taken("p1;", 1);
        taken("p1;" + STEP, 2);
    }

    private static void itemsOfMany() {
        Document.says("THE TEXT tells all, and is empty then: how many ITEMS.");
        taken(STEP.repeat(5) + "p1;", 6);
        taken(STEP.repeat(2) + "h0 1;".repeat(26), 28);
        taken(STEP.repeat(5) + "h3 4;".repeat(20) + "p1;", 26);
    }

    private static void toldAhead() {
        Document.says("h A B (told ahead; A is less than B: A must be done ahead of B)");
        for (int n = 0; n <= 5; n++) {
            String steps = STEP.repeat(n);
            for (int a = 0; a <= 6; a++) {
                for (int b = 0; b <= 6; b++) {
                    int inA = steps.length() + 1;
                    int due = a >= n ? -10 - inA : b <= a || b >= n ? -10 - inA - 2 : n + 1;
                    is("h" + a + " " + b + " of " + n + " steps", shop(steps + "h" + a + " " + b + ";"), due);
                }
            }
        }
    }

    private static void stepsStandAhead() {
        Document.says("(told ahead;");
        fault("h0 1;" + STEP + STEP, 1);
        fault(STEP + "h0 1;" + STEP, 12);
        fault(STEP + "h1 2;" + STEP + STEP, 10);
        fault(STEP + STEP + "h0 2;" + STEP, 21);
        taken(STEP + STEP + "h0 1;" + STEP + "h1 2;h0 2;", 6);
    }

    private static void onceAtMost() {
        Document.says("p N (price; once at most)");
        taken("p1;", 1);
        taken("p1;" + STEP, 2);
        taken(STEP + "p1;" + STEP, 3);
        taken(STEP + "p1;", 2);
        fault("p1;p1;", 3);
        fault("p1;" + STEP + "p2;", 12);
        fault(STEP + "p1; p", 13);
        fault("p1;p1;p1;", 3);
        NeedleHands x = new NeedleHands();
        Check.shop(x, "p1;");
        is("once in each text", Check.shop(x, "p2;"), 1);
        Check.shop(x, "p3;p4;");
        is("once in a text behind a fault", Check.shop(x, "p5;"), 1);
    }

    private static void lettersSideBySide() {
        Document.says("TOKENS are letters a .. z side by side, NUMBERS and ; .");
        fault("ss1 0 1 0;", 0);
        fault("pp1;", 0);
        fault("sa1 0 1 0;", 0);
        fault("sz1 0 1 0;", 0);
        fault("as1 0 1 0;", 0);
        fault("p1;sh", 3);
        fault("s`1 0 1 0;", 1);
        fault("s{1 0 1 0;", 1);
        fault("S1 0 1 0;", 0);
        fault("sS1 0 1 0;", 1);
        fault("p/;", 1);
        fault("p:;", 1);
        fault("p1/", 2);
        fault("p1:", 2);
        fault("p1<", 2);
    }

    /** The tokens of a text, each replaced by one that can't stand there. */
    private static void firstTokenThatCantStand() {
        Document.says("FAULT of a text: the place of the first byte of the first TOKEN that can't stand there");
        String[] tokens = "s 99 9 30 9 ; s 1 0 1 0 ; h 0 1 ; p 99 ;".split(" ");
        String[] strangers = {"s", "h", "p", "x", "sp", ";", "0", "7", "100", "00", "01", "!"};
        for (int at = 0; at < tokens.length; at++) {
            int place = 0;
            for (int i = 0; i < at; i++) {
                place += tokens[i].length() + 1;
            }
            for (String stranger : strangers) {
                if (!mayStand(tokens[at], at, stranger)) {
                    String[] other = tokens.clone();
                    other[at] = stranger;
                    fault(String.join(" ", other), place);
                }
            }
        }
    }

    private static boolean mayStand(String due, int at, String stranger) {
        if (Character.isLetter(due.charAt(0))) {
            return "shp".contains(stranger);
        }
        if (due.equals(";")) {
            return stranger.equals(";");
        }
        // In the second step each number is the least it may be; the h takes 0 and 1 alone.
        boolean zero = stranger.equals("0") && (at == 2 || at == 4 || at == 8 || at == 10 || at == 13 || at == 17);
        boolean seven = stranger.equals("7") && at != 13 && at != 14;
        return zero || seven;
    }

    private static void firstOfSeveralFaults() {
        Document.says("the first TOKEN that can't stand there");
        fault("p100;!", 1);
        fault("p1;x;p100;", 3);
        fault("s1 10 31 10;", 3);
        fault("s1 9 31 10;", 5);
        fault("s1 9 30 10;!", 8);
        fault("s0 0 1", 1);
        fault("p1;p100;", 3);
        fault(STEP.repeat(5) + "s0 10 0 10;", 45);
        fault("h9 9;", 1);
        fault("!s1", 0);
    }

    private static void lettersThatBeginNoItem() {
        Document.says("(letters that begin no ITEM,");
        for (char c = 'a'; c <= 'z'; c++) {
            boolean begins = c == 's' || c == 'h' || c == 'p';
            fault("p1; " + c + " ;", begins && c != 'p' ? 6 : 4);
            fault(c + "x", 0);
            fault("x" + c, 0);
        }
    }

    private static void sixthStep() {
        Document.says("a sixth step,");
        String five = STEP.repeat(5);
        fault(five + STEP, 45);
        fault(five + "p1;" + STEP, 48);
        fault(five + "h0 4; s", 51);
        fault(five + "s;", 45);
        taken(five + "h0 4;p1;", 7);
    }

    private static void priceAgain() {
        Document.says("p again,");
        fault("p0;p0;", 3);
        fault("p0; p", 4);
        fault("p0;" + STEP + "p100;", 12);
        taken("p0;" + STEP, 2);
    }

    private static void notAbove() {
        Document.says("B that is not above A,");
        String five = STEP.repeat(5);
        for (int a = 0; a < 5; a++) {
            for (int b = 0; b <= a; b++) {
                fault(five + "h" + a + " " + b + ";", 48);
            }
        }
        fault(five + "h4 4;", 48);
        fault(five + "h4 5;", 48);
        taken(five + "h3 4;", 6);
    }

    private static void numberBeyond() {
        Document.says("a NUMBER beyond what it may be, too)");
        fault("s0 0 1 0;", 1);
        fault("s 0 0 1 0;", 2);
        fault("s1 10 1 0;", 3);
        fault("s1 99 1 0;", 3);
        fault("s1 0 0 0;", 5);
        fault("s1 0 31 0;", 5);
        fault("s1 0 1 10;", 7);
        fault(STEP + STEP + "h2 3;", 19);
        fault(STEP + STEP + "h0 2;", 21);
        fault(STEP + STEP + "h0 99;", 21);
    }

    private static void byteThatBeginsNone() {
        Document.says("of a byte that begins none,");
        for (int c = 0; c <= 255; c++) {
            boolean isDigit = c >= '0' && c <= '9';
            int inNumber = c == ';' ? 1 : c == ' ' || isDigit ? -13 : -12;
            is("p1 and byte " + c, shop("p1" + (char) c), inNumber);
            boolean begins = c == 's' || c == 'h';
            is("p1; and byte " + c, shop("p1;" + (char) c), c == ' ' ? 1 : begins ? -14 : -13);
            is("byte " + c + " alone", shop("" + (char) c), c == ' ' ? 0 : begins || c == 'p' ? -11 : -10);
        }
    }

    private static void numberAbove99() {
        Document.says("a NUMBER above 99 or");
        taken("p99;", 1);
        for (String beyond : BEYOND) {
            fault("p" + beyond + ";", 1);
            fault("p 9;" + beyond, 4);
            fault("s9 0 1 " + beyond, 7);
        }
        fault("p" + "9".repeat(149), 1);
        fault("1".repeat(150), 0);
    }

    private static void zeroAheadOfOthers() {
        Document.says("or with a 0 ahead of others, that TOKEN's;");
        taken("p0;", 1);
        taken("p10;", 1);
        taken("s20 0 30 0;", 1);
        for (String wrong : new String[] {"00", "01", "09", "010", "000", "0" + "0".repeat(100)}) {
            fault("p" + wrong + ";", 1);
            fault("s" + wrong + " 0 1 0;", 1);
            fault("s1  " + wrong + " 1 0;", 4);
            fault("s1 0 " + wrong + " 0;", 5);
            fault("s1 0 1 " + wrong, 7);
            fault(STEP + STEP + "h" + wrong, 19);
            fault(STEP + STEP + "h0 " + wrong, 21);
        }
    }

    private static void endsTooEarly() {
        Document.says("the text's length, if it ends too early.");
        String text = " s12 3 14 5;s99 9 30 9 ; h0 1;p 50;  ";
        int items = 0;
        boolean isWhole = true;
        for (int length = 0; length <= text.length(); length++) {
            char last = length == 0 ? ' ' : text.charAt(length - 1);
            items += last == ';' ? 1 : 0;
            isWhole = last == ';' || last == ' ' && isWhole;
            is("the first " + length + " of it", shop(text.substring(0, length)), isWhole ? items : -10 - length);
        }
        fault(BLANKS.substring(0, 149) + "s", 150);
        fault("s" + BLANKS.substring(0, 149), 150);
    }

    private static void byteTyped() {
        Document.says("A byte (0 .. 255) comes to THE TEXT: how many it has. BAD; FULL.");
        int[] wrong = {-1, 256, -256, 288, Integer.MIN_VALUE, Integer.MAX_VALUE};
        NeedleHands x = new NeedleHands();
        for (int c = 0; c < 150; c++) {
            is("byte " + c, x.type(c), c + 1);
        }
        NeedleHands y = new NeedleHands();
        for (int c = 150; c <= 255; c++) {
            is("byte " + c, y.type(c), c - 149);
        }
        for (int c : wrong) {
            is("byte " + c, y.type(c), BAD);
            is("byte " + c + ", though it is full", x.type(c), BAD);
        }
        is("0 to a full text", x.type(0), FULL);
        is("255 to a full text", x.type(255), FULL);
        is("what was refused did not come", y.count(4), 106);
        is("what was refused did not come to the full one", x.count(4), 150);
    }

    private static void cleared() {
        Document.says("THE TEXT is empty: how many bytes it had.");
        NeedleHands x = new NeedleHands();
        is("of none", x.clear(), 0);
        x.type('p');
        is("of one", x.clear(), 1);
        is("of none again", x.clear(), 0);
        Check.type(x, BLANKS);
        is("of 150", x.clear(), 150);
        is("none are there", x.count(4), 0);
        is("there is room again", x.type('p'), 1);
        is("the cleared ones are not read", x.shop(), -11);
        is("a faulty text has them still", x.clear(), 1);
        is("nothing is left to be read", x.shop(), 0);
    }

    private static void emptyThen() {
        Document.says("THE TEXT tells all, and is empty then:");
        NeedleHands x = new NeedleHands();
        Check.type(x, STEP + "p7;");
        is("read", x.shop(), 2);
        is("empty", x.count(4), 0);
        is("nothing to clear", x.clear(), 0);
        is("the next byte is the first", x.type('p'), 1);
        is("the next text begins there", x.shop(), -11);
    }

    private static void placeOfFault() {
        Document.says("-10 less the place of its FAULT: nothing changes.");
        for (int place = 0; place < 150; place++) {
            fault(BLANKS.substring(0, place) + "!", place);
        }
        fault(BLANKS.substring(0, 148) + "p7", 150);
        NeedleHands x = new NeedleHands();
        Check.type(x, "p7");
        is("a fault", x.shop(), -12);
        is("the same fault", x.shop(), -12);
        is("the text may go on", x.type(';'), 3);
        is("and is read then", x.shop(), 1);
        is("and tells", x.count(1), 7);
    }

    /** Texts of which all but the end can be read, each followed by a good one. */
    private static void nothingOfAFaultStays() {
        Document.says("of its FAULT: nothing changes.");
        List<String> faulty = new ArrayList<>(List.of("p9;s9 9 9 9;s9 9 9 9;h0 1;!", "s9 9 9 9;s9 9 9 9;h0 1;h0 0;",
                "p9;p9;", "s2 3 4", "s2 3", "s9 9 9 9;".repeat(6)));
        for (String text : faulty) {
            NeedleHands x = Check.told("s5 6 7 8;s4 3 2 1;p11;");
            Document.holds("'" + text + "' is faulty", Check.shop(x, text) <= -10);
            int[] rows = {5, 6, 7, 8, 0, 0, 0, 0, 4, 3, 2, 1, 0, 0, 1, 0};
            for (int r = 0; r < rows.length; r++) {
                is("behind '" + text + "' step " + r / 8 + " " + r % 8, x.step(r / 8, r % 8), rows[r]);
            }
            is("behind '" + text + "' steps", x.count(0), 2);
            is("behind '" + text + "' price", x.count(1), 11);
            is("behind '" + text + "' a good one", Check.shop(x, STEP + STEP), 2);
            is("no price of '" + text + "'", x.count(1), 50);
            is("no fault of '" + text + "'", x.step(0, 1), 0);
            is("no ahead of '" + text + "'", x.step(0, 7), 0);
        }
    }
}

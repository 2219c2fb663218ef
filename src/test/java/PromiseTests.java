/** One method for each promise: ordinary inputs, the document's edges, and wrong inputs. */
public final class PromiseTests {
    private static final int BAD = NeedleHands.BAD;
    private static final int STATE = NeedleHands.STATE;
    private static final int FULL = NeedleHands.FULL;
    private static final int NONE = NeedleHands.NONE;
    private static final int NO = NeedleHands.NO;

    /** Two steps whose means are easy to work out by hand: faults of a half, price 50. */
    private static final String TWO = "s10 5 4 2;s20 5 6 0;";
    private static final String FIVE = "s1 1 1 1;s2 2 2 2;s3 3 3 3;s4 4 4 4;s5 5 5 5;";
    private static final int[] WRONG = {-1, -2, Integer.MIN_VALUE, Integer.MAX_VALUE};

    private PromiseTests() {
    }

    public static void main(String[] args) {
        promise1NewObject();
        promise2Type();
        promise3Clear();
        promise4ShopTells();
        promise4ShopAnew();
        promise4Faults();
        promise4FaultsOfTokens();
        promise4NothingChanges();
        promise5Step();
        promise6Line();
        promise7Makes();
        promise7MakesFull();
        promise8Looks();
        promise9Skill();
        promise10Moves();
        promise11Undo();
        promise11UndoOfEach();
        promise12Now();
        promise13Mean();
        promise14Lost();
        promise15Paper();
        promise16BestLooks();
        promise17BestOrder();
        promise18Few();
        promise19Blame();
        promise20First();
        promise21Tells();
        promise22Forget();
        promise23Who();
        promise24Mark();
        promise25Keep();
        promise26Back();
        promise27Count();
        promise28Trace();
        Check.end("PromiseTests");
    }

    private static void is(String what, long got, long due) {
        Check.is(what, got, due);
    }

    private static void fraction(String what, long upper, long lower, long dueUpper, long dueLower) {
        is(what + ", upper", upper, dueUpper);
        is(what + ", lower", lower, dueLower);
    }

    private static void mean(NeedleHands x, int which, long upper, long lower) {
        fraction("mean " + which, x.mean(which, 0), x.mean(which, 1), upper, lower);
    }

    private static void promise1NewObject() {
        NeedleHands x = new NeedleHands();
        is("1 steps", x.count(0), 0);
        is("1 price", x.count(1), 50);
        is("1 told", x.count(2), 0);
        is("1 undone", x.count(3), 0);
        is("1 text", x.count(4), 0);
        is("1 trace", x.trace(), 0);
        for (int what = 0; what <= 5; what++) {
            is("1 now " + what, x.now(what), 0);
        }
        is("1 step", x.step(0, 0), BAD);
        is("1 line", x.line(0), BAD);
        is("1 looks", x.looks(0, 1), BAD);
        is("1 skill", x.skill(0, 1), BAD);
        is("1 moves", x.moves(1), BAD);
        is("1 lost", x.lost(0, 0), BAD);
        is("1 blame", x.blame(0, 0, 0), BAD);
        is("1 first", x.first(0), BAD);
        is("1 bestOrder", x.bestOrder(0), BAD);
        is("1 bestLooks", x.bestLooks(), 0);
        is("1 few", x.few(250), 0);
        is("1 mark", x.mark(0, 0), NO);
        is("1 back", x.back(0), STATE);
        is("1 undo", x.undo(), STATE);
        is("1 who, the least", x.who(1), 0);
        fraction("1 paper", x.paper(99, 0), x.paper(99, 1), 0, 1);
    }

    private static void promise2Type() {
        NeedleHands x = new NeedleHands();
        is("2 byte 0", x.type(0), 1);
        is("2 byte 255", x.type(255), 2);
        is("2 byte 256", x.type(256), BAD);
        for (int wrong : WRONG) {
            is("2 byte " + wrong, x.type(wrong), BAD);
        }
        is("2 bytes", x.count(4), 2);
        for (int n = 3; n <= 150; n++) {
            is("2 byte " + n, x.type(' '), n);
        }
        is("2 full", x.type(' '), FULL);
        is("2 bad ahead of full", x.type(256), BAD);
        is("2 bytes of a full text", x.count(4), 150);
    }

    private static void promise3Clear() {
        NeedleHands x = new NeedleHands();
        is("3 nothing", x.clear(), 0);
        Check.type(x, "s1 x");
        is("3 four", x.clear(), 4);
        is("3 empty", x.count(4), 0);
        is("3 again", x.clear(), 0);
        is("3 a new text", Check.shop(x, TWO), 2);
        x.type('p');
        x.clear();
        is("3 the steps stay", x.count(0), 2);
    }

    private static void promise4ShopTells() {
        NeedleHands x = new NeedleHands();
        is("4 seven items", Check.shop(x, FIVE + "h0 1;p 99;"), 7);
        is("4 the text is empty", x.count(4), 0);
        is("4 steps", x.count(0), 5);
        is("4 price", x.count(1), 99);
        for (int s = 0; s < 5; s++) {
            for (int what = 0; what <= 3; what++) {
                is("4 step " + s + " " + what, x.step(s, what), s + 1);
            }
        }
        is("4 the text is nothing", x.shop(), 0);
        is("4 then there are no steps", x.count(0), 0);
        is("4 blanks alone", Check.shop(x, "   "), 0);
        is("4 blanks between", Check.shop(x, "  s 1  0 30 9 ;p0;  "), 2);
        is("4 look of 30", x.step(0, 2), 30);
        is("4 miss of 9", x.step(0, 3), 9);
        is("4 price of 0", x.count(1), 0);
        is("4 most of all", Check.shop(x, "s99 9 30 9;p99;"), 2);
        is("4 no blanks where none are due", Check.shop(x, "p1;s1 0 1 0;s1 0 1 0;h0 1;"), 4);
        is("4 ahead twice", Check.shop(x, "s1 0 1 0;s1 0 1 0;h0 1;h0 1;"), 4);
        is("4 ahead twice is ahead", x.step(0, 7), 2);
        is("4 five steps by 150 bytes", Check.shop(x, (FIVE + " ".repeat(150)).substring(0, 150)), 5);
    }

    private static void promise4ShopAnew() {
        NeedleHands x = Check.told(TWO + "h0 1;p7;");
        x.makes(0);
        x.looks(1, 1);
        x.skill(0, 9);
        x.tells(3, 1);
        x.keep(0);
        x.keep(1);
        x.mark(1, 0);
        is("4 anew", Check.shop(x, TWO), 2);
        is("4 price anew", x.count(1), 50);
        is("4 nothing told", x.count(2), 0);
        is("4 nothing to be undone", x.count(3), 0);
        is("4 undo", x.undo(), STATE);
        is("4 image 0 is gone", x.back(0), STATE);
        is("4 image 1 is gone", x.back(1), STATE);
        for (int what = 0; what <= 5; what++) {
            is("4 now " + what, x.now(what), 0);
        }
        is("4 fault as told", x.step(0, 1), 5);
        is("4 ahead of none", x.step(0, 7), 0);
        is("4 the trace stays", x.trace(), 11);
        x.moves(1);
        x.looks(0, 1);
        x.makes(0);
        Check.shop(x, TWO);
        is("4 the line by numbers", x.line(0), 0);
        is("4 nothing thrown", x.step(0, 5), 0);
        Check.shop(x, TWO + "h0 1;p7;");
        Check.shop(x, TWO + "h0 1;p8;");
        Check.shop(x, TWO);
        is("4 price as of a new object", x.count(1), 50);
        is("4 no ahead of older texts", x.step(0, 7), 0);
    }

    private static void fault(String text, int place) {
        NeedleHands x = new NeedleHands();
        is("4 fault of '" + text + "'", Check.shop(x, text), -10 - place);
        is("4 the text stays", x.count(4), text.length());
        is("4 no step comes", x.count(0), 0);
    }

    private static void promise4Faults() {
        fault("s0 0 1 0;", 1);
        fault("s1 10 1 0;", 3);
        fault("s1 0 0 0;", 5);
        fault("s1 0 31 0;", 5);
        fault("s1 0 1 10;", 7);
        fault("s1 0 1;", 6);
        fault("s1 0 1 0 0;", 9);
        fault("s;", 1);
        fault(FIVE + "s1 1 1 1;", FIVE.length());
        fault(FIVE + " s", FIVE.length() + 1);
        fault("h0 1;s1 0 1 0;s1 0 1 0;", 1);
        fault("s1 0 1 0;h0 1;", 12);
        fault("s1 0 1 0;h1 2;", 10);
        fault("s1 0 1 0;s1 0 1 0;h0 0;", 21);
        fault("s1 0 1 0;s1 0 1 0;h1 0;", 21);
        fault("s1 0 1 0;s1 0 1 0;h0 2;", 21);
        fault("s1 0 1 0;s1 0 1 0;h0;", 20);
        fault("p;", 1);
        fault("p1 1;", 3);
        fault("p1;p1;", 3);
        fault("p1; p", 4);
        fault(";", 0);
        fault("1;", 0);
        fault(" p1;;", 4);
    }

    private static void promise4FaultsOfTokens() {
        fault("ss1 0 1 0;", 0);
        fault("x1;", 0);
        fault("sa1 0 1 0;", 0);
        fault("sz1 0 1 0;", 0);
        fault("p1`", 2);
        fault("p1{", 2);
        fault("p1/", 2);
        fault("p1:", 2);
        fault("ps1;", 0);
        fault("S1 0 1 0;", 0);
        fault("s1 0 1 0;hp0 1;", 9);
        fault("p100;", 1);
        fault("p 100;", 2);
        fault("p00;", 1);
        fault("p01;", 1);
        fault("p4294967297;", 1);
        fault("p" + "9".repeat(149), 1);
        fault("p" + "0".repeat(149), 1);
        fault("p-1;", 1);
        fault("p1,", 2);
        fault("\t", 0);
        fault("p1;" + (char) 0, 3);
        fault("p1;" + (char) 255, 3);
        fault("p1s", 2);
        fault("p", 1);
        fault("p  ", 3);
        fault("p1", 2);
        fault("p1 ", 3);
        fault("s1 0 1", 6);
        fault("s1 0 1 0", 8);
        fault("s1 0 1 0;h", 10);
        fault("s1 0 1 0;h0", 11);
        fault("s".repeat(150), 0);
        fault("p1;" + " ".repeat(146) + "s", 150);
        NeedleHands x = new NeedleHands();
        Check.type(x, "ps 11;");
        is("4 what was cleared is not read: letters", Check.shop(x, "p"), -11);
        is("4 what was cleared is not read: blanks", Check.shop(x, "p "), -12);
        is("4 what was cleared is not read: numbers", Check.shop(x, "p 9"), -13);
        is("4 a text behind cleared ones", Check.shop(x, "p 9;"), 1);
    }

    private static void promise4NothingChanges() {
        NeedleHands x = Check.told(TWO + "p7;");
        x.makes(0);
        x.tells(3, 1);
        x.keep(1);
        is("4 a fault at the end", Check.shop(x, "p9;s1 0 1 0;s2 0 1 0;s3 0 1 0;h0 2;!"), -45);
        is("4 steps stay", x.count(0), 2);
        is("4 seconds stay", x.step(0, 0), 10);
        is("4 ahead stays", x.step(0, 7), 0);
        is("4 price stays", x.count(1), 7);
        is("4 told stays", x.count(2), 1);
        is("4 undone stays", x.count(3), 1);
        is("4 made stays", x.now(0), 1);
        is("4 image stays", x.back(1), 1);
        is("4 the text stays", x.clear(), 36);
    }

    private static void promise5Step() {
        NeedleHands x = Check.told("s11 2 13 4;s22 5 6 0;s33 7 8 9;h0 1;h1 2;");
        int[] due = {22, 5, 6, 0, 0, 0, 1, 4};
        for (int what = 0; what < due.length; what++) {
            is("5 step 1 " + what, x.step(1, what), due[what]);
        }
        is("5 those told alone", x.step(0, 7), 2);
        is("5 none", x.step(2, 7), 0);
        is("5 what 8", x.step(0, 8), BAD);
        is("5 step 3", x.step(3, 0), BAD);
        for (int wrong : WRONG) {
            is("5 step " + wrong, x.step(wrong, 0), BAD);
            is("5 what " + wrong, x.step(0, wrong), BAD);
        }
        NeedleHands y = Check.told(TWO);
        y.skill(1, 9);
        is("5 fault now", y.step(1, 1), 9);
        y.looks(0, 1);
        is("5 looked", y.step(0, 4), 1);
        y.makes(0);
        is("5 thrown", y.step(0, 5), 1);
        is("5 thrown behind the other one", y.step(1, 5), 0);
        y.moves(1);
        is("5 stands", y.step(0, 6), 1);
        is("5 the other stands", y.step(1, 6), 0);
        is("5 looked goes with the step", y.step(0, 4), 1);
    }

    private static void promise6Line() {
        NeedleHands x = Check.told(FIVE);
        for (int i = 0; i < 5; i++) {
            is("6 line " + i, x.line(i), i);
        }
        is("6 line 5", x.line(5), BAD);
        for (int wrong : WRONG) {
            is("6 line " + wrong, x.line(wrong), BAD);
        }
        x.moves(4);
        is("6 moved ahead", x.line(3), 4);
        is("6 moved back", x.line(4), 3);
    }

    /** Draws of TWO: z=0 fault 0 and miss 7 of step 0; z=4 none; z=9 fault of step 1; z=9999 missed. */
    private static void promise7Makes() {
        NeedleHands x = Check.told(TWO);
        is("7 a dud by step 0", x.makes(0), 1);
        is("7 its cost", x.now(4), 80);
        is("7 no dud", x.makes(4), 0);
        is("7 its cost", x.now(4), 110);
        is("7 a dud by step 1", x.makes(9), 1);
        x.looks(0, 1);
        is("7 thrown behind step 0", x.makes(0), 2);
        is("7 its cost", x.now(4), 204);
        is("7 not found behind step 0", x.makes(9999), 1);
        is("7 its cost", x.now(4), 288);
        x.looks(1, 1);
        is("7 found behind step 1", x.makes(9999), 2);
        is("7 its cost", x.now(4), 328);
        is("7 thrown behind step 1", x.step(1, 5), 1);
        is("7 thrown behind step 0", x.step(0, 5), 1);
        is("7 10000", x.makes(10000), BAD);
        for (int wrong : WRONG) {
            is("7 z " + wrong, x.makes(wrong), BAD);
        }
        is("7 made", x.now(0), 6);
        NeedleHands y = Check.told(TWO);
        y.skill(0, 0);
        y.skill(1, 0);
        is("7 no fault by skill", y.makes(0), 0);
        y.skill(0, 1);
        is("7 a draw of 0 is below 1", y.makes(0), 1);
        is("7 a draw of 6 is not below 5", Check.told("s1 5 1 0;").makes(4), 0);
        is("7 a draw of 6 is not below 6", Check.told("s1 6 1 0;").makes(4), 0);
        is("7 a draw of 6 is below 7", Check.told("s1 7 1 0;").makes(4), 1);
    }

    /** Needs more than 512 calls, so that what it asks is more than the document does. */
    private static void promise7MakesFull() {
        NeedleHands x = Check.told("s99 9 30 9;s99 9 30 9;s99 9 30 9;s99 9 30 9;s99 9 30 9;p99;");
        for (int s = 0; s < 5; s++) {
            x.looks(s, 1);
        }
        for (int z = 0; z < 9999; z++) {
            x.makes(z);
        }
        is("7 made", x.now(0), 9999);
        is("7 there are 9999", x.makes(0), STATE);
        is("7 bad ahead of state", x.makes(-1), BAD);
        Check.holds("7 the cost is 9999999 at most", x.now(4) <= 9999999);
        is("7 sold and thrown", x.now(1) + x.now(3), 9999);
    }

    private static void promise8Looks() {
        NeedleHands x = Check.told(FIVE);
        is("8 not looked already", x.looks(2, 0), STATE);
        is("8 one", x.looks(2, 1), 1);
        is("8 looked already", x.looks(2, 1), STATE);
        is("8 two", x.looks(4, 1), 2);
        is("8 bits", x.now(5), 20);
        is("8 one again", x.looks(2, 0), 1);
        is("8 bits again", x.now(5), 16);
        is("8 step 5", x.looks(5, 1), BAD);
        is("8 is 2", x.looks(0, 2), BAD);
        is("8 bad ahead of state", x.looks(5, 0), BAD);
        for (int wrong : WRONG) {
            is("8 step " + wrong, x.looks(wrong, 1), BAD);
            is("8 is " + wrong, x.looks(0, wrong), BAD);
        }
        is("8 what was refused is not undone", x.count(3), 3);
    }

    private static void promise9Skill() {
        NeedleHands x = Check.told(TWO);
        is("9 was 5", x.skill(0, 9), 5);
        is("9 was 9", x.skill(0, 0), 9);
        is("9 was 0", x.skill(0, 0), 0);
        is("9 is 0", x.step(0, 1), 0);
        is("9 the other one", x.step(1, 1), 5);
        is("9 each may be undone", x.count(3), 3);
        is("9 10", x.skill(0, 10), BAD);
        is("9 step 2", x.skill(2, 1), BAD);
        for (int wrong : WRONG) {
            is("9 step " + wrong, x.skill(wrong, 1), BAD);
            is("9 f " + wrong, x.skill(0, wrong), BAD);
        }
        is("9 nothing more", x.count(3), 3);
    }

    private static void promise10Moves() {
        NeedleHands x = Check.told(FIVE + "h1 3;");
        is("10 ahead of 2", x.moves(3), 2);
        is("10 1 must be ahead of 3", x.moves(2), STATE);
        is("10 ahead of 0", x.moves(1), 0);
        is("10 now 3 is free of 0", x.moves(2), 0);
        int[] due = {1, 3, 0, 2, 4};
        for (int i = 0; i < 5; i++) {
            is("10 line " + i, x.line(i), due[i]);
        }
        is("10 the first", x.moves(0), BAD);
        is("10 the sixth", x.moves(5), BAD);
        for (int wrong : WRONG) {
            is("10 " + wrong, x.moves(wrong), BAD);
        }
        is("10 three may be undone", x.count(3), 3);
    }

    private static void promise11Undo() {
        NeedleHands x = Check.told(TWO);
        is("11 none", x.undo(), STATE);
        for (int f = 0; f < 10; f++) {
            x.skill(0, f);
        }
        x.looks(0, 1);
        x.looks(1, 1);
        is("11 ten are known", x.count(3), 10);
        for (int more = 9; more >= 0; more--) {
            is("11 undo", x.undo(), more);
        }
        is("11 older ones are lost", x.undo(), STATE);
        is("11 as ahead of the tenth", x.step(0, 1), 1);
        is("11 nothing looked", x.now(5), 0);
        x.skill(1, 3);
        is("11 one again", x.undo(), 0);
        is("11 as told", x.step(1, 1), 5);
    }

    private static void promise11UndoOfEach() {
        NeedleHands x = Check.told(TWO);
        x.tells(1, 1);
        x.makes(0);
        x.looks(0, 1);
        x.makes(0);
        x.skill(0, 0);
        x.moves(1);
        is("11 of moves", x.undo(), 4);
        is("11 line", x.line(0), 0);
        is("11 of skill", x.undo(), 3);
        is("11 fault", x.step(0, 1), 5);
        is("11 of a thrown one", x.undo(), 2);
        is("11 thrown", x.step(0, 5), 0);
        is("11 thrown in all", x.now(3), 0);
        is("11 made", x.now(0), 1);
        is("11 cost", x.now(4), 80);
        is("11 of looks", x.undo(), 1);
        is("11 looked", x.now(5), 0);
        is("11 of a sold one", x.undo(), 0);
        for (int what = 0; what <= 5; what++) {
            is("11 now " + what, x.now(what), 0);
        }
        is("11 what was told stays", x.count(2), 1);
    }

    private static void promise12Now() {
        NeedleHands x = Check.told(TWO + "p9;");
        x.makes(0);
        x.makes(4);
        x.looks(1, 1);
        x.makes(0);
        int[] due = {3, 2, 1, 1, 39 + 30 + 36, 2};
        for (int what = 0; what < due.length; what++) {
            is("12 now " + what, x.now(what), due[what]);
        }
        is("12 now 6", x.now(6), BAD);
        for (int wrong : WRONG) {
            is("12 now " + wrong, x.now(wrong), BAD);
        }
    }

    private static void promise13Mean() {
        NeedleHands x = Check.told(TWO);
        mean(x, 0, 135, 2);
        mean(x, 1, 1, 4);
        mean(x, 2, 3, 4);
        mean(x, 3, 270, 1);
        x.looks(0, 1);
        mean(x, 0, 87, 2);
        mean(x, 1, 1, 4);
        mean(x, 2, 7, 20);
        mean(x, 3, 174, 1);
        x.looks(1, 1);
        mean(x, 0, 148, 5);
        mean(x, 2, 0, 1);
        mean(x, 3, 592, 5);
        x.skill(0, 0);
        mean(x, 1, 1, 2);
        mean(x, 0, 40, 1);
        for (int wrong : WRONG) {
            is("13 which " + wrong, x.mean(wrong, 0), BAD);
            is("13 what " + wrong, x.mean(0, wrong), BAD);
        }
        is("13 which 4", x.mean(4, 0), BAD);
        is("13 what 2", x.mean(0, 2), BAD);
        is("13 nothing to be undone more", x.count(3), 3);
    }

    private static void promise14Lost() {
        NeedleHands x = Check.told(TWO);
        fraction("14 not looked", x.lost(0, 0), x.lost(0, 1), 0, 1);
        x.looks(0, 1);
        x.looks(1, 1);
        fraction("14 behind the first", x.lost(0, 0), x.lost(0, 1), 2, 5);
        fraction("14 behind the second", x.lost(1, 0), x.lost(1, 1), 7, 20);
        x.looks(1, 0);
        fraction("14 not any more", x.lost(1, 0), x.lost(1, 1), 0, 1);
        x.moves(1);
        fraction("14 by the line", x.lost(1, 0), x.lost(1, 1), 3, 5);
        is("14 the third", x.lost(2, 0), BAD);
        is("14 what 2", x.lost(0, 2), BAD);
        for (int wrong : WRONG) {
            is("14 " + wrong, x.lost(wrong, 0), BAD);
            is("14 what " + wrong, x.lost(0, wrong), BAD);
        }
    }

    private static void promise15Paper() {
        NeedleHands x = Check.told(TWO);
        fraction("15 of 1", x.paper(1, 0), x.paper(1, 1), 3, 4);
        fraction("15 of 99", x.paper(99, 0), x.paper(99, 1), 297, 4);
        x.looks(0, 1);
        fraction("15 of 10, of those sold alone", x.paper(10, 0), x.paper(10, 1), 35, 6);
        x.looks(1, 1);
        fraction("15 no duds", x.paper(10, 0), x.paper(10, 1), 0, 1);
        is("15 of 0", x.paper(0, 0), BAD);
        is("15 of 100", x.paper(100, 0), BAD);
        is("15 what 2", x.paper(1, 2), BAD);
        for (int wrong : WRONG) {
            is("15 of " + wrong, x.paper(wrong, 0), BAD);
            is("15 what " + wrong, x.paper(1, wrong), BAD);
        }
    }

    private static void promise16BestLooks() {
        NeedleHands x = Check.told(TWO);
        is("16 both", x.bestLooks(), 3);
        is("16 nothing is looked behind by that", x.now(5), 0);
        x.skill(0, 0);
        is("16 behind the faulty one alone", x.bestLooks(), 2);
        x.skill(1, 0);
        is("16 none", x.bestLooks(), 0);
        is("16 of two that cost as much, the least", Check.told("s1 5 10 0;p20;").bestLooks(), 0);
        is("16 a dearer dud", Check.told("s1 5 10 0;p21;").bestLooks(), 1);
        NeedleHands y = Check.told("s1 5 1 0;s1 0 1 0;p99;");
        is("16 behind the faulty one", y.bestLooks(), 1);
        y.looks(1, 1);
        is("16 whatever is looked behind now", y.bestLooks(), 1);
        y.moves(1);
        is("16 by the line as it is", y.bestLooks(), 1);
    }

    private static void promise17BestOrder() {
        NeedleHands x = Check.told(TWO);
        is("17 of several the first", x.bestOrder(0), 0);
        is("17 of several the first", x.bestOrder(1), 1);
        x.looks(0, 1);
        is("17 the look comes last", x.bestOrder(0), 1);
        is("17 the look comes last", x.bestOrder(1), 0);
        is("17 the line stays", x.line(0), 0);
        is("17 the third", x.bestOrder(2), BAD);
        for (int wrong : WRONG) {
            is("17 " + wrong, x.bestOrder(wrong), BAD);
        }
        NeedleHands y = Check.told(TWO + "h0 1;");
        y.looks(0, 1);
        is("17 0 must be ahead", y.bestOrder(0), 0);
        is("17 0 must be ahead", y.bestOrder(1), 1);
        NeedleHands v = Check.told("s1 9 1 0;s1 5 1 0;s9 0 1 0;s9 0 1 0;h0 3;h2 3;");
        v.looks(1, 1);
        v.looks(3, 1);
        int[] last = {0, 1, 2, 3};
        for (int i = 0; i < 4; i++) {
            is("17 faults ahead of looks " + i, v.bestOrder(i), last[i]);
        }
        NeedleHands u = Check.told("s90 0 1 0;s70 0 1 0;s50 2 1 0;s30 5 1 0;s1 9 1 0;");
        for (int s = 0; s < 5; s++) {
            u.looks(s, 1);
        }
        for (int i = 0; i < 5; i++) {
            is("17 the last order of all but for what is the same " + i, u.bestOrder(i), new int[] {4, 3, 2, 0, 1}[i]);
        }
        NeedleHands w = Check.told("s9 0 1 0;s9 0 1 0;s9 0 1 0;s9 0 1 0;s1 5 1 0;h1 4;");
        w.looks(4, 1);
        int[] due = {1, 4, 0, 2, 3};
        for (int i = 0; i < 5; i++) {
            is("17 as early as may be " + i, w.bestOrder(i), due[i]);
        }
        w.moves(1);
        is("17 whatever the line is", w.bestOrder(2), 0);
    }

    private static void promise18Few() {
        NeedleHands x = Check.told(TWO);
        is("18 of 25 18.75", x.few(188), 0);
        is("18 fewer", x.few(187), 1);
        is("18 of 25 14.58", x.few(146), 1);
        is("18 still fewer", x.few(145), 2);
        is("18 none at all", x.few(0), 2);
        is("18 all may be", x.few(250), 0);
        is("18 251", x.few(251), BAD);
        for (int wrong : WRONG) {
            is("18 " + wrong, x.few(wrong), BAD);
        }
        NeedleHands y = Check.told("s1 5 1 5;s1 0 1 5;s1 0 1 5;");
        is("18 a half", y.few(125), 0);
        is("18 a third, of as few the least", y.few(84), 1);
        is("18 two, the least of them", y.few(83), 3);
        is("18 a fifth", y.few(50), 3);
        is("18 a ninth", y.few(28), 7);
        is("18 it can't be", y.few(27), NONE);
        y.looks(0, 1);
        is("18 whatever is looked behind now", y.few(84), 1);
        NeedleHands w = Check.told("s1 5 1 5;s1 0 1 5;s1 0 1 5;s1 0 1 5;s1 0 1 5;");
        is("18 a seventeenth", w.few(15), 15);
        is("18 a thirty-third, by all", w.few(8), 31);
        is("18 not by all", w.few(7), NONE);
    }

    private static void promise19Blame() {
        NeedleHands x = Check.told(TWO);
        is("19 not looked behind", x.blame(0, 0, 0), NONE);
        is("19 not looked behind, k above i", x.blame(0, 1, 1), NONE);
        x.looks(0, 1);
        fraction("19 alone", x.blame(0, 0, 0), x.blame(0, 0, 1), 1, 1);
        fraction("19 k above i", x.blame(0, 1, 0), x.blame(0, 1, 1), 0, 1);
        x.looks(1, 1);
        fraction("19 the first", x.blame(1, 0, 0), x.blame(1, 0, 1), 2, 7);
        fraction("19 the second", x.blame(1, 1, 0), x.blame(1, 1, 1), 5, 7);
        x.moves(1);
        fraction("19 by the line", x.blame(1, 0, 0), x.blame(1, 0, 1), 0, 1);
        fraction("19 by the line", x.blame(1, 1, 0), x.blame(1, 1, 1), 1, 1);
        x.skill(0, 0);
        is("19 none can be found there", x.blame(1, 1, 0), NONE);
        is("19 i 2", x.blame(2, 0, 0), BAD);
        is("19 k 2", x.blame(0, 2, 0), BAD);
        is("19 what 2", x.blame(0, 0, 2), BAD);
        for (int wrong : WRONG) {
            is("19 i " + wrong, x.blame(wrong, 0, 0), BAD);
            is("19 k " + wrong, x.blame(0, wrong, 0), BAD);
            is("19 what " + wrong, x.blame(0, 0, wrong), BAD);
        }
    }

    private static void promise20First() {
        NeedleHands x = Check.told(TWO);
        is("20 not looked behind", x.first(1), NONE);
        x.looks(1, 1);
        is("20 a half and a quarter", x.first(1), 0);
        x.looks(0, 1);
        is("20 a tenth and a quarter", x.first(1), 1);
        x.skill(0, 0);
        is("20 no fault at all", x.first(0), NONE);
        NeedleHands y = Check.told("s1 1 1 0;s1 5 1 0;s1 9 1 0;s1 5 1 0;");
        y.looks(2, 1);
        is("20 the second, by 45 of 100", y.first(2), 1);
        NeedleHands w = Check.told("s1 0 1 0;s1 2 1 0;s1 0 1 0;");
        w.looks(2, 1);
        is("20 the faulty one", w.first(2), 1);
        NeedleHands v = Check.told("s1 5 1 5;s1 5 1 0;");
        v.looks(0, 1);
        v.looks(1, 1);
        is("20 of several the first", v.first(1), 0);
        is("20 2", v.first(2), BAD);
        for (int wrong : WRONG) {
            is("20 " + wrong, v.first(wrong), BAD);
        }
    }

    private static void promise21Tells() {
        NeedleHands x = new NeedleHands();
        is("21 one", x.tells(0, 0), 1);
        is("21 two", x.tells(9999, 2), 2);
        is("21 the same again", x.tells(9999, 2), 3);
        is("21 10000", x.tells(10000, 0), BAD);
        is("21 how 3", x.tells(0, 3), BAD);
        for (int wrong : WRONG) {
            is("21 z " + wrong, x.tells(wrong, 0), BAD);
            is("21 how " + wrong, x.tells(0, wrong), BAD);
        }
        is("21 four", x.tells(1, 1), 4);
        is("21 five", x.tells(1, 1), 5);
        is("21 six", x.tells(1, 1), 6);
        is("21 full", x.tells(1, 1), FULL);
        is("21 bad ahead of full", x.tells(1, 3), BAD);
        is("21 six there are", x.count(2), 6);
        is("21 nothing to be undone", x.count(3), 0);
    }

    private static void promise22Forget() {
        NeedleHands x = Check.told(TWO);
        is("22 nothing", x.forget(), 0);
        x.tells(0, 0);
        x.tells(0, 2);
        is("22 none made that", x.who(0), 0);
        is("22 two", x.forget(), 2);
        is("22 nothing there is", x.count(2), 0);
        is("22 all could be", x.who(0), 4);
        is("22 one again", x.tells(0, 2), 1);
    }

    private static void promise23Who() {
        NeedleHands x = Check.told(TWO);
        is("23 all", x.who(0), 4);
        is("23 the least", x.who(1), 0);
        is("23 in all", x.who(2), 0);
        x.tells(0, 2);
        is("23 thrown", x.who(0), 3);
        is("23 thrown, the least", x.who(1), 1);
        is("23 thrown, in all", x.who(2), 0);
        x.tells(9999, 1);
        is("23 not found", x.who(0), 1);
        is("23 not found, the least", x.who(1), 1);
        is("23 not found, in all", x.who(2), 1);
        x.tells(4, 2);
        is("23 never", x.who(0), 0);
        is("23 never, the least", x.who(1), NONE);
        is("23 never, in all", x.who(2), NONE);
        x.forget();
        x.tells(9, 2);
        is("23 behind step 1", x.who(2), 2);
        x.looks(0, 1);
        is("23 whatever is looked behind now", x.who(0), 2);
        x.moves(1);
        is("23 by the line as it is", x.who(0), 3);
        x.skill(1, 0);
        is("23 by faults as they are", x.who(0), 0);
        is("23 what 3", x.who(3), BAD);
        for (int wrong : WRONG) {
            is("23 " + wrong, x.who(wrong), BAD);
        }
    }

    private static void promise24Mark() {
        NeedleHands x = Check.told("s10 5 14 2;s20 5 6 0;");
        x.looks(0, 1);
        x.makes(0);
        x.makes(0);
        x.makes(4);
        int[] due = {10, 15, -4, 30, -2, 13};
        for (int kind = 0; kind < due.length; kind++) {
            is("24 kind " + kind, x.mark(kind, 0), due[kind]);
        }
        x.skill(0, 9);
        is("24 fault now", x.mark(1, 0), 19);
        is("24 fault now, times 2", x.mark(3, 0), 38);
        is("24 thrown behind that one alone", x.mark(4, 1), 14);
        long before = x.trace();
        is("24 kind 6", x.mark(6, 0), NO);
        is("24 step 2", x.mark(0, 2), NO);
        for (int wrong : WRONG) {
            is("24 kind " + wrong, x.mark(wrong, 0), NO);
            is("24 step " + wrong, x.mark(0, wrong), NO);
        }
        is("24 no trace of what was refused", x.trace(), before);
    }

    private static void promise25Keep() {
        NeedleHands x = Check.told(TWO);
        is("25 none made", x.keep(0), 0);
        x.makes(0);
        x.makes(0);
        is("25 two made", x.keep(1), 2);
        is("25 two made, kept over the older one", x.keep(0), 2);
        x.undo();
        is("25 the newer one", x.back(0), 2);
        is("25 2", x.keep(2), BAD);
        for (int wrong : WRONG) {
            is("25 " + wrong, x.keep(wrong), BAD);
        }
        is("25 it is not to be undone", x.count(3), 2);
        NeedleHands y = new NeedleHands();
        is("25 of a new object", y.keep(1), 0);
        is("25 and back", y.back(1), 0);
        NeedleHands w = Check.told(TWO);
        w.skill(0, 1);
        w.skill(0, 2);
        w.keep(0);
        for (int f = 3; f <= 9; f++) {
            w.skill(0, f);
            w.skill(1, f);
        }
        w.back(0);
        w.undo();
        is("25 the past is kept whole", w.step(0, 1), 1);
        w.undo();
        is("25 the past is kept whole", w.step(0, 1), 5);
        is("25 and that of the other step", w.step(1, 1), 5);
    }

    private static void promise26Back() {
        NeedleHands x = Check.told(TWO);
        is("26 none was kept", x.back(0), STATE);
        is("26 2", x.back(2), BAD);
        for (int wrong : WRONG) {
            is("26 " + wrong, x.back(wrong), BAD);
        }
        x.looks(0, 1);
        x.makes(0);
        x.moves(1);
        x.keep(0);
        is("26 the other one was not kept", x.back(1), STATE);
        x.skill(0, 1);
        x.looks(0, 0);
        x.makes(0);
        x.makes(0);
        x.moves(1);
        x.tells(1, 1);
        x.mark(0, 0);
        is("26 back", x.back(0), 1);
        is("26 line", x.line(0), 1);
        is("26 looked", x.now(5), 1);
        is("26 fault", x.step(0, 1), 5);
        is("26 thrown", x.step(0, 5), 1);
        is("26 cost", x.now(4), 14);
        is("26 undone", x.count(3), 3);
        is("26 told stays", x.count(2), 1);
        is("26 trace stays", x.trace(), 1);
        is("26 undo", x.undo(), 2);
        is("26 undo of the move", x.line(0), 0);
        is("26 undo", x.undo(), 1);
        is("26 undo of the making", x.now(0), 0);
        x.skill(0, 7);
        x.skill(0, 8);
        is("26 back again", x.back(0), 1);
        is("26 undone again", x.count(3), 3);
        is("26 the image's own past", x.undo(), 2);
        is("26 line of that", x.line(0), 0);
        is("26 fault of that", x.step(0, 1), 5);
        is("26 made of that", x.now(0), 1);
        is("26 the image's own past", x.undo(), 1);
        is("26 not made", x.now(0), 0);
        is("26 looked", x.now(5), 1);
        is("26 the image's own past", x.undo(), 0);
        is("26 not looked", x.now(5), 0);
    }

    private static void promise27Count() {
        NeedleHands x = Check.told(TWO + "p3;");
        x.tells(1, 1);
        x.skill(0, 1);
        x.skill(0, 2);
        Check.type(x, "abcd");
        int[] due = {2, 3, 1, 2, 4};
        for (int what = 0; what < due.length; what++) {
            is("27 count " + what, x.count(what), due[what]);
        }
        is("27 count 5", x.count(5), BAD);
        for (int wrong : WRONG) {
            is("27 count " + wrong, x.count(wrong), BAD);
        }
    }

    private static void promise28Trace() {
        NeedleHands x = Check.told(TWO);
        long[] steps = {1, 11, 101, 1011, 10101, 100001};
        long due = 0;
        for (int kind = 0; kind < steps.length; kind++) {
            x.mark(kind, 1);
            due += steps[kind];
            is("28 kind " + kind, x.trace(), due);
        }
        x.skill(0, 1);
        x.undo();
        is("28 undo leaves it", x.trace(), due);
    }
}

/** Part 3 of the terms, and the promises from mean to who: each edge by its sentence. */
public final class MeansEdgeTests {
    private static final int BAD = -1;
    private static final int FULL = -3;
    private static final int NONE = -9;
    private static final String STEP = "s1 0 1 0;";
    /** Faults of a half, so that the means are easy to work out by hand. */
    private static final String TWO = "s10 5 4 2;s20 5 6 0;";
    private static final String WORST = "s99 9 30 9;".repeat(5) + "p99;";
    private static final int[] FAR = {Integer.MIN_VALUE, Integer.MAX_VALUE};

    private MeansEdgeTests() {
    }

    public static void main(String[] args) {
        asTheyAreNow();
        meanOfNoSteps();
        meanOfEach();
        worthOfTheLeastGood();
        lostOfEach();
        lostWhereNoneIsThrown();
        paperOfEach();
        paperOfWrongNumbers();
        paperOfTheWorst();
        looksOfNone();
        looksOfAll();
        looksTheLeast();
        orderOfEach();
        orderTheFirst();
        orderTheLastOfAll();
        orderByAhead();
        fewOfEveryNumber();
        fewAsManyTenths();
        fewTheFewest();
        fewNone();
        fewOfWrongNumbers();
        blameByOdds();
        blameAboveI();
        blameNone();
        blameOfEach();
        firstOfSeveral();
        firstOfEachPlace();
        firstNone();
        toldAtMost();
        toldHowMuch();
        toldOfEach();
        forgotten();
        whoOfNothing();
        whoOfAll();
        whoOfNone();
        whoOfEach();
        Check.end("MeansEdgeTests");
    }

    private static void is(String what, long got, long due) {
        Document.is(what, got, due);
    }

    private static void mean(NeedleHands x, int which, long upper, long lower) {
        Document.fraction("mean " + which, x.mean(which, 0), x.mean(which, 1), upper, lower);
    }

    private static void lost(NeedleHands x, int i, long upper, long lower) {
        Document.fraction("lost " + i, x.lost(i, 0), x.lost(i, 1), upper, lower);
    }

    private static void paper(NeedleHands x, int n, long upper, long lower) {
        Document.fraction("paper of " + n, x.paper(n, 0), x.paper(n, 1), upper, lower);
    }

    private static void blame(NeedleHands x, int i, int k, long upper, long lower) {
        Document.fraction("blame " + i + " " + k, x.blame(i, k, 0), x.blame(i, k, 1), upper, lower);
    }

    private static NeedleHands lookedBehindAll(String text) {
        NeedleHands x = Check.told(text);
        for (int s = 0; s < x.count(0); s++) {
            x.looks(s, 1);
        }
        return x;
    }

    private static void asTheyAreNow() {
        Document.says("(Nothing is changed; THE LINE, FAULTS, LOOKS as they are NOW.)");
        NeedleHands x = Check.told(TWO);
        mean(x, 0, 135, 2);
        x.looks(0, 1);
        mean(x, 0, 87, 2);
        x.moves(1);
        mean(x, 0, 83, 2);
        x.skill(0, 0);
        mean(x, 0, 39, 1);
        x.undo();
        mean(x, 0, 83, 2);
        x.undo();
        mean(x, 0, 87, 2);
        x.undo();
        mean(x, 0, 135, 2);
        x.makes(0);
        mean(x, 0, 135, 2);
    }

    private static void meanOfNoSteps() {
        Document.says("MEAN of a NEEDLE: its COST; GOOD: SOLD, no DUD; BAD ONES: SOLD, a DUD;");
        NeedleHands x = new NeedleHands();
        mean(x, 0, 0, 1);
        mean(x, 1, 1, 1);
        mean(x, 2, 0, 1);
        mean(x, 3, 0, 1);
        NeedleHands y = lookedBehindAll("s99 0 30 0;".repeat(5));
        mean(y, 0, 645, 1);
        mean(y, 1, 1, 1);
        mean(y, 2, 0, 1);
        mean(y, 3, 645, 1);
    }

    private static void meanOfEach() {
        Document.says("WORTH (3; NONE): upper (what = 0), lower number (1), in least terms. BAD.");
        NeedleHands x = Check.told(TWO);
        mean(x, 0, 135, 2);
        mean(x, 1, 1, 4);
        mean(x, 2, 3, 4);
        mean(x, 3, 270, 1);
        for (int what = 0; what <= 1; what++) {
            is("which 4", x.mean(4, what), BAD);
            is("which -1", x.mean(-1, what), BAD);
        }
        for (int which = 0; which <= 3; which++) {
            is("what 2 of " + which, x.mean(which, 2), BAD);
            is("what -1 of " + which, x.mean(which, -1), BAD);
        }
        for (int far : FAR) {
            is("which " + far, x.mean(far, 0), BAD);
            is("what " + far, x.mean(0, far), BAD);
        }
    }

    /** FAULT is 9 of 10 at most, so that some are good in any shop: the least that may be. */
    private static void worthOfTheLeastGood() {
        Document.says("WORTH: COST by GOOD: a fraction; NONE (GOOD is 0).");
        NeedleHands x = Check.told(WORST);
        mean(x, 1, 1, 100000);
        mean(x, 2, 99999, 100000);
        mean(x, 0, 59399901, 100000);
        mean(x, 3, 59399901, 1);
        for (int s = 0; s < 5; s++) {
            x.looks(s, 1);
        }
        mean(x, 1, 1, 100000);
        mean(x, 3, 592267839, 10);
        for (int s = 0; s < 5; s++) {
            x.skill(s, 0);
        }
        mean(x, 3, 645, 1);
    }

    private static void lostOfEach() {
        Document.says("LOST: upper (what = 0), lower number (1), in least terms. BAD.");
        NeedleHands x = Check.told(TWO);
        lost(x, 0, 0, 1);
        lost(x, 1, 0, 1);
        x.looks(0, 1);
        x.looks(1, 1);
        lost(x, 0, 2, 5);
        lost(x, 1, 7, 20);
        is("beyond the last", x.lost(2, 0), BAD);
        is("ahead of the first", x.lost(-1, 0), BAD);
        is("what 2", x.lost(0, 2), BAD);
        is("what -1", x.lost(0, -1), BAD);
        for (int far : FAR) {
            is("the " + far + "-th", x.lost(far, 0), BAD);
            is("what " + far, x.lost(0, far), BAD);
        }
        x.moves(1);
        lost(x, 0, 1, 2);
        lost(x, 1, 1, 5);
        is("of no steps", new NeedleHands().lost(0, 0), BAD);
    }

    private static void lostWhereNoneIsThrown() {
        Document.says("LOST behind the i-th STEP of THE LINE: THROWN there: fractions.");
        NeedleHands x = lookedBehindAll(TWO);
        lost(x, 0, 2, 5);
        x.looks(0, 0);
        lost(x, 0, 0, 1);
        lost(x, 1, 3, 4);
        x.bestLooks();
        x.few(0);
        lost(x, 0, 0, 1);
        x.looks(1, 0);
        lost(x, 1, 0, 1);
        x.looks(0, 1);
        x.skill(0, 0);
        lost(x, 0, 0, 1);
        x.skill(0, 9);
        lost(x, 0, 18, 25);
    }

    private static void paperOfEach() {
        Document.says("PAPER of n (1 .. 99) NEEDLES SOLD: how many of them are DUDS in the mean:");
        NeedleHands x = Check.told(TWO);
        paper(x, 1, 3, 4);
        paper(x, 2, 3, 2);
        paper(x, 4, 3, 1);
        paper(x, 98, 147, 2);
        paper(x, 99, 297, 4);
        is("of 0", x.paper(0, 0), BAD);
        is("of 100", x.paper(100, 0), BAD);
        is("of -1", x.paper(-1, 1), BAD);
        is("what 2", x.paper(1, 2), BAD);
        is("what -1", x.paper(1, -1), BAD);
        for (int far : FAR) {
            is("of " + far, x.paper(far, 0), BAD);
            is("what " + far, x.paper(1, far), BAD);
        }
    }

    private static void paperOfWrongNumbers() {
        Document.says("PAPER: upper (what = 0), lower number (1), in least terms; NONE. BAD.");
        NeedleHands x = new NeedleHands();
        for (int n = 1; n <= 99; n++) {
            paper(x, n, 0, 1);
        }
        for (int what = 0; what <= 1; what++) {
            is("of 0", x.paper(0, what), BAD);
            is("of 100", x.paper(100, what), BAD);
        }
        is("of 0 and what 2", x.paper(0, 2), BAD);
    }

    /** Some are sold in any shop, as FAULT is 9 of 10 at most: there the paper is never NONE. */
    private static void paperOfTheWorst() {
        Document.says("a fraction; NONE (none are ever SOLD).");
        NeedleHands none = new NeedleHands();
        paper(none, 1, 0, 1);
        paper(none, 99, 0, 1);
        NeedleHands x = lookedBehindAll("s1 9 1 0;".repeat(5));
        mean(x, 1, 1, 100000);
        paper(x, 99, 0, 1);
        NeedleHands y = Check.told(WORST);
        paper(y, 99, 9899901, 100000);
        paper(lookedBehindAll(WORST), 99, 59188239, 597871);
    }

    private static void looksOfNone() {
        Document.says("LOOKS, as bits.");
        is("of no steps", new NeedleHands().bestLooks(), 0);
        is("where nothing is found", Check.told("s99 0 1 0;".repeat(5) + "p99;").bestLooks(), 0);
        is("where a dud costs nothing", Check.told("s1 9 1 0;p0;").bestLooks(), 0);
        is("where it pays", Check.told("s1 9 1 0;p99;").bestLooks(), 1);
        is("behind the last alone", Check.told(STEP.repeat(4) + "s1 9 1 0;p99;").bestLooks(), 16);
    }

    private static void looksOfAll() {
        Document.says("LOOKS: of all sets of STEPS that by which, LOOKED behind these alone, MEAN COST is least,");
        for (int n = 1; n <= 5; n++) {
            is("all of " + n, Check.told("s99 9 1 0;".repeat(n) + "p99;").bestLooks(), (1 << n) - 1);
        }
        NeedleHands x = lookedBehindAll("s1 5 30 0;".repeat(5) + "p0;");
        is("none, though all are looked behind now", x.bestLooks(), 0);
    }

    private static void looksTheLeast() {
        Document.says("of several the least (bits);");
        is("11 and 11", Check.told("s1 5 10 0;p20;").bestLooks(), 0);
        is("11.5 and 11", Check.told("s1 5 10 0;p21;").bestLooks(), 1);
        is("10.5 and 11", Check.told("s1 5 10 0;p19;").bestLooks(), 0);
        NeedleHands x = Check.told("s1 5 2 0;s2 0 1 0;p99;");
        is("4 behind either, more behind both", x.bestLooks(), 1);
        NeedleHands y = Check.told("s1 5 3 0;s2 0 1 0;p99;");
        is("5 behind the first, 4 behind the other", y.bestLooks(), 2);
    }

    private static void orderOfEach() {
        Document.says("ORDER: who is the i-th. BAD.");
        for (int n = 0; n <= 5; n++) {
            NeedleHands x = Check.told(STEP.repeat(n));
            for (int i = 0; i < n; i++) {
                is("the " + i + "-th of " + n, x.bestOrder(i), i);
            }
            is("beyond " + n, x.bestOrder(n), BAD);
            is("-1 of " + n, x.bestOrder(-1), BAD);
            is("far beyond " + n, x.bestOrder(Integer.MAX_VALUE), BAD);
            is("far below", x.bestOrder(Integer.MIN_VALUE), BAD);
        }
    }

    private static void order(String what, NeedleHands x, int... due) {
        for (int i = 0; i < due.length; i++) {
            is(what + ": the " + i + "-th", x.bestOrder(i), due[i]);
        }
    }

    private static void orderTheFirst() {
        Document.says("of several the first (by numbers): who is the i-th.");
        NeedleHands x = Check.told("s9 5 1 0;s8 5 2 0;s7 5 3 0;s6 5 4 0;s5 5 5 0;");
        order("none is looked behind, all cost the same", x, 0, 1, 2, 3, 4);
        x.moves(4);
        x.moves(1);
        order("whatever the line is", x, 0, 1, 2, 3, 4);
        NeedleHands y = Check.told("s9 0 1 0;s9 0 1 0;s9 0 1 0;s1 5 1 0;s9 0 1 0;");
        y.looks(3, 1);
        order("one comes first, the others by numbers", y, 3, 0, 1, 2, 4);
        NeedleHands w = Check.told("s4 5 1 0;s4 5 1 0;s1 0 1 0;");
        w.looks(0, 1);
        w.looks(1, 1);
        order("two that are the same, by numbers", w, 0, 1, 2);
    }

    private static void orderTheLastOfAll() {
        Document.says("ORDER: of all orders of STEPS by which each AHEAD is so that by which MEAN COST is least,");
        NeedleHands x = lookedBehindAll("s90 1 1 0;s70 2 1 0;s50 3 1 0;s30 5 1 0;s1 9 1 0;");
        order("the last order of all", x, 4, 3, 2, 1, 0);
        NeedleHands y = lookedBehindAll("s70 2 1 0;s1 9 1 0;");
        order("the last of two", y, 1, 0);
    }

    private static void orderByAhead() {
        Document.says("by which each AHEAD is so");
        String five = "s90 1 1 0;s70 2 1 0;s50 3 1 0;s30 5 1 0;s1 9 1 0;";
        // 31 + 91/2 + 2 * 0.45 + .. is less than 31 + 51/2 + 91 * 0.35 + .. and than 91 + ..
        order("the dear one must be ahead of the best", lookedBehindAll(five + "h0 4;"), 3, 0, 4, 2, 1);
        order("no order but one", lookedBehindAll(five + "h0 1;h1 2;h2 3;h3 4;"), 0, 1, 2, 3, 4);
        order("two of them", lookedBehindAll(five + "h2 3;"), 4, 2, 3, 1, 0);
    }

    private static void fewOfEveryNumber() {
        Document.says("FEW for v (0 .. 250):");
        NeedleHands x = Check.told(TWO);
        for (int v = 0; v <= 250; v++) {
            is("v " + v, x.few(v), v >= 188 ? 0 : v >= 146 ? 1 : 2);
        }
        is("251", x.few(251), BAD);
        is("-1", x.few(-1), BAD);
        is("far beyond", x.few(Integer.MAX_VALUE), BAD);
        is("far below", x.few(Integer.MIN_VALUE), BAD);
        is("no steps, no duds", new NeedleHands().few(0), 0);
    }

    private static void fewAsManyTenths() {
        Document.says("of 25 NEEDLES that are SOLD v tenths or fewer are DUDS in the mean");
        for (int fault = 0; fault <= 9; fault++) {
            NeedleHands x = Check.told("s1 " + fault + " 1 9;");
            is("25 of " + fault, x.few(25 * fault), 0);
            if (fault > 0) {
                // Of 10 that are made, 9 of 10 duds stay: 9 fault by 100 less fault.
                int least = (250 * 9 * fault + 99 - fault) / (100 - fault);
                is("just below 25 of " + fault, x.few(25 * fault - 1), least <= 25 * fault - 1 ? 1 : NONE);
                is("as many as by the look " + fault, x.few(least), 1);
                is("fewer than by the look " + fault, x.few(least - 1), NONE);
            }
        }
    }

    private static void fewTheFewest() {
        Document.says("the fewest STEPS (bits; of as few the least) to be LOOKED behind");
        NeedleHands x = Check.told("s1 5 1 5;s1 0 1 5;s1 0 1 5;s1 0 1 5;s1 0 1 5;");
        is("a half", x.few(125), 0);
        is("one, the least", x.few(124), 1);
        is("a third is 83.3 of 250", x.few(84), 1);
        is("two, the least", x.few(83), 3);
        is("a fifth", x.few(50), 3);
        is("three, the least", x.few(49), 7);
        is("a ninth is 27.7", x.few(28), 7);
        is("four, the least", x.few(27), 15);
        is("a seventeenth is 14.7", x.few(15), 15);
        is("all five", x.few(14), 31);
        is("a thirty-third is 7.5", x.few(8), 31);
        NeedleHands y = Check.told(STEP + STEP + "s1 5 1 0;");
        is("one greater alone, ahead of two less ones", y.few(0), 4);
        NeedleHands w = Check.told("s1 5 1 0;s1 5 1 0;s1 0 1 9;");
        w.moves(1);
        is("by the line as it is", w.few(0), 1);
    }

    private static void fewNone() {
        Document.says("(if none are ever SOLD: not); NONE.");
        NeedleHands x = Check.told("s1 5 1 5;s1 0 1 5;s1 0 1 5;s1 0 1 5;s1 0 1 5;");
        is("not by all", x.few(7), NONE);
        is("none at all", x.few(0), NONE);
        NeedleHands y = Check.told(WORST);
        is("the worst", y.few(250), 0);
        is("the worst, one less", y.few(249), NONE);
        is("the least that is sold is sold", Check.told("s1 9 1 0;".repeat(5)).few(0), 16);
    }

    private static void fewOfWrongNumbers() {
        Document.says("FEW, as bits; NONE. BAD.");
        NeedleHands x = Check.told("s1 5 1 9;");
        is("0", x.few(0), NONE);
        is("-1", x.few(-1), BAD);
        is("250", x.few(250), 0);
        is("251", x.few(251), BAD);
        is("the step as a bit", x.few(124), 1);
    }

    private static void blameByOdds() {
        Document.says("BLAME: a DUD was found behind the i-th STEP of THE LINE: by what odds the k-th one made it:");
        NeedleHands x = Check.told("s1 5 1 5;s1 5 1 0;s1 5 1 0;");
        x.looks(2, 1);
        blame(x, 2, 0, 4, 7);
        blame(x, 2, 1, 2, 7);
        blame(x, 2, 2, 1, 7);
        x.looks(0, 1);
        blame(x, 2, 0, 2, 5);
        blame(x, 2, 1, 2, 5);
        blame(x, 2, 2, 1, 5);
        x.looks(1, 1);
        blame(x, 1, 0, 1, 2);
        blame(x, 2, 0, 0, 1);
        blame(x, 2, 1, 0, 1);
        blame(x, 2, 2, 1, 1);
    }

    private static void blameAboveI() {
        Document.says("a fraction (0 by 1, if k is above i);");
        NeedleHands x = lookedBehindAll("s1 5 1 5;".repeat(5));
        for (int i = 0; i < 5; i++) {
            for (int k = i + 1; k < 5; k++) {
                blame(x, i, k, 0, 1);
            }
            Document.holds("k of " + i + " itself", x.blame(i, i, 0) > 0);
        }
        x.skill(0, 0);
        blame(x, 1, 0, 0, 1);
        blame(x, 1, 1, 1, 1);
    }

    private static void blameNone() {
        Document.says("NONE (none can be found there, it is not LOOKED behind).");
        NeedleHands x = Check.told("s1 5 1 0;s1 0 1 0;s1 5 1 0;");
        for (int i = 0; i < 3; i++) {
            for (int k = 0; k < 3; k++) {
                is("not looked behind " + i, x.blame(i, k, 0), NONE);
                is("not looked behind " + i + ", lower", x.blame(i, k, 1), NONE);
            }
        }
        x.looks(0, 1);
        x.looks(1, 1);
        blame(x, 0, 0, 1, 1);
        is("all were found ahead of it", x.blame(1, 0, 0), NONE);
        is("all were found ahead of it, k above i", x.blame(1, 2, 1), NONE);
        is("not looked behind the last", x.blame(2, 2, 0), NONE);
        x.looks(2, 1);
        blame(x, 2, 2, 1, 1);
        blame(x, 2, 0, 0, 1);
        x.skill(0, 0);
        is("no fault so far", x.blame(0, 0, 0), NONE);
    }

    private static void blameOfEach() {
        Document.says("BLAME: upper (what = 0), lower number (1), in least terms; NONE. BAD.");
        NeedleHands x = lookedBehindAll(TWO);
        blame(x, 1, 0, 2, 7);
        blame(x, 1, 1, 5, 7);
        int[] wrong = {-1, 2, Integer.MIN_VALUE, Integer.MAX_VALUE};
        for (int w : wrong) {
            is("i " + w, x.blame(w, 0, 0), BAD);
            is("k " + w, x.blame(1, w, 0), BAD);
            is("what " + w, x.blame(1, 1, w), BAD);
            is("all " + w, x.blame(w, w, w), BAD);
        }
        x.looks(0, 0);
        is("a wrong k where it is not looked behind", x.blame(0, 2, 0), BAD);
        is("a wrong what where it is not looked behind", x.blame(0, 0, 2), BAD);
        is("of no steps", new NeedleHands().blame(0, 0, 0), BAD);
        NeedleHands worst = lookedBehindAll(WORST);
        blame(worst, 4, 0, 6561, 7381);
        blame(worst, 4, 4, 1, 7381);
    }

    private static void firstOfSeveral() {
        Document.says("FIRST to be asked: the k of the greatest BLAME, of several the first;");
        NeedleHands x = lookedBehindAll("s1 5 1 5;s1 5 1 0;");
        blame(x, 1, 0, 1, 2);
        blame(x, 1, 1, 1, 2);
        is("two halves", x.first(1), 0);
        NeedleHands y = Check.told("s1 0 1 0;s1 0 1 0;s1 0 1 0;s1 0 1 0;s1 1 1 0;");
        y.looks(4, 1);
        is("the last alone", y.first(4), 4);
        y.skill(3, 1);
        is("a tenth ahead of a tenth of the others", y.first(4), 3);
        y.skill(4, 2);
        is("a tenth, and two tenths of nine", y.first(4), 4);
        is("the first place alone", lookedBehindAll("s1 1 1 0;").first(0), 0);
    }

    private static void firstOfEachPlace() {
        Document.says("FIRST to be asked: the k of the greatest BLAME,");
        for (int k = 0; k < 5; k++) {
            NeedleHands x = Check.told("s1 1 1 0;".repeat(5));
            x.looks(4, 1);
            x.skill(k, 9);
            is("the worst one is the " + k + "-th", x.first(4), k);
        }
        NeedleHands y = Check.told("s1 9 1 0;s1 1 1 0;");
        y.looks(0, 1);
        y.looks(1, 1);
        y.moves(1);
        is("by its place, not by its number", y.first(1), 1);
    }

    private static void firstNone() {
        Document.says("FIRST to be asked; NONE. BAD.");
        NeedleHands x = Check.told(TWO);
        is("not looked behind", x.first(0), NONE);
        is("the last, not looked behind", x.first(1), NONE);
        is("beyond the last", x.first(2), BAD);
        is("ahead of the first", x.first(-1), BAD);
        is("far beyond", x.first(Integer.MAX_VALUE), BAD);
        is("far below", x.first(Integer.MIN_VALUE), BAD);
        x.looks(0, 1);
        x.skill(0, 0);
        is("none can be found", x.first(0), NONE);
        is("of no steps", new NeedleHands().first(0), BAD);
    }

    private static void toldAtMost() {
        Document.says("TOLD (6 at most):");
        NeedleHands x = Check.told(TWO);
        for (int n = 1; n <= 6; n++) {
            is("the " + n + "-th", x.tells(0, 2), n);
        }
        is("the 7th", x.tells(0, 2), FULL);
        is("the 7th again", x.tells(4, 0), FULL);
        is("six there are", x.count(2), 6);
        is("the 7th is not looked at", x.who(0), 3);
        is("a wrong number comes first", x.tells(10000, 2), BAD);
        is("a wrong fate comes first", x.tells(0, 3), BAD);
        x.forget();
        is("room again", x.tells(9, 2), 1);
        is("of that alone", x.who(1), 2);
    }

    private static void toldHowMuch() {
        Document.says("TOLD: how much there is. BAD; FULL.");
        NeedleHands x = new NeedleHands();
        is("one, of no steps", x.tells(0, 0), 1);
        is("the same again", x.tells(0, 0), 2);
        is("against it", x.tells(0, 1), 3);
        is("refused", x.tells(0, 3), BAD);
        is("four", x.tells(9999, 2), 4);
        is("refused", x.tells(10000, 2), BAD);
        is("five", x.tells(9999, 2), 5);
        is("six", x.tells(9999, 2), 6);
        is("seven", x.tells(9999, 2), FULL);
    }

    private static void toldOfEach() {
        Document.says("whether it was SOLD (no DUD: 0; a DUD: 1) or THROWN (2).");
        NeedleHands x = Check.told(TWO);
        is("0 and 0", x.tells(0, 0), 1);
        is("9999 and 2", x.tells(9999, 2), 2);
        is("z -1", x.tells(-1, 0), BAD);
        is("z 10000", x.tells(10000, 0), BAD);
        is("how -1", x.tells(0, -1), BAD);
        is("how 3", x.tells(0, 3), BAD);
        for (int far : FAR) {
            is("z " + far, x.tells(far, 0), BAD);
            is("how " + far, x.tells(0, far), BAD);
        }
        is("two there are", x.count(2), 2);
        is("of a needle that was never made, too", x.now(0), 0);
        int[][] fates = {{4, 0, 4}, {4, 1, 0}, {4, 2, 0}, {0, 0, 0}, {0, 1, 1}, {0, 2, 3}, {9, 1, 2}, {9, 2, 2}};
        for (int[] row : fates) {
            x.forget();
            x.tells(row[0], row[1]);
            is("sets by which " + row[0] + " is " + row[1], x.who(0), row[2]);
        }
    }

    private static void forgotten() {
        Document.says("Nothing was TOLD: how much there was.");
        NeedleHands x = Check.told(TWO);
        is("nothing", x.forget(), 0);
        x.tells(0, 0);
        is("one", x.forget(), 1);
        is("nothing again", x.forget(), 0);
        for (int n = 0; n < 8; n++) {
            x.tells(0, 0);
        }
        is("six", x.forget(), 6);
        is("none there are", x.count(2), 0);
        is("all sets again", x.who(0), 4);
    }

    private static void whoOfNothing() {
        Document.says("WHO: sets of STEPS (bits 0 .. 31)");
        for (int n = 0; n <= 5; n++) {
            NeedleHands x = Check.told(STEP.repeat(n));
            is("all sets of " + n, x.who(0), 1 << n);
            is("the least of all", x.who(1), 0);
            is("in all of all", x.who(2), 0);
        }
    }

    /** Each of the five needles is a dud by another step, found behind that one alone. */
    private static void whoOfAll() {
        Document.says("that, LOOKED behind these alone, would have made all that was TOLD so:");
        NeedleHands x = Check.told("s1 2 1 5;".repeat(5));
        int[] draws = {0, 420, 136, 11, 22};
        int inAll = 0;
        for (int s = 0; s < 5; s++) {
            x.tells(draws[s], 2);
            inAll |= 1 << s;
            is("in all " + s, x.who(2), inAll);
            is("the least " + s, x.who(1), inAll);
            is("how many " + s, x.who(0), 1 << (4 - s));
        }
        x.looks(0, 1);
        is("whatever is looked behind now", x.who(0), 1);
        x.looks(0, 0);
        x.tells(0, 1);
        is("and not thrown, too", x.who(0), 0);
        x.forget();
        for (int s = 0; s < 5; s++) {
            x.tells(draws[s], 1);
        }
        is("none of them found", x.who(1), 0);
        is("none of them found, behind none", x.who(0), 1);
    }

    private static void whoOfNone() {
        Document.says("how many; the least; those that are in all (bits); NONE.");
        NeedleHands x = Check.told(TWO);
        x.tells(4, 2);
        is("how many", x.who(0), 0);
        is("the least", x.who(1), NONE);
        is("those in all", x.who(2), NONE);
        NeedleHands none = new NeedleHands();
        none.tells(0, 1);
        is("of no steps, how many", none.who(0), 0);
        is("of no steps, the least", none.who(1), NONE);
        is("of no steps, those in all", none.who(2), NONE);
        none.forget();
        none.tells(0, 0);
        is("of no steps, the empty set", none.who(0), 1);
        is("of no steps, the least", none.who(1), 0);
        is("of no steps, those in all", none.who(2), 0);
    }

    private static void whoOfEach() {
        Document.says("WHO: how many (what = 0), the least (1; NONE), those in all (2; NONE). BAD.");
        NeedleHands x = Check.told(TWO);
        x.tells(0, 2);
        is("0", x.who(0), 3);
        is("1", x.who(1), 1);
        is("2, of 1, 2 and 3", x.who(2), 0);
        is("3", x.who(3), BAD);
        is("-1", x.who(-1), BAD);
        is("far beyond", x.who(Integer.MAX_VALUE), BAD);
        is("far below", x.who(Integer.MIN_VALUE), BAD);
    }
}

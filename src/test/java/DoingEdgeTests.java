import java.math.BigInteger;
import java.util.ArrayList;
import java.util.List;

/** Part 2 of the terms, and the promises from step to now: each edge by its sentence. */
public final class DoingEdgeTests {
    private static final int BAD = -1;
    private static final int STATE = -2;
    private static final String STEP = "s1 0 1 0;";
    /** Two steps whose draws are known: z=0 is a dud by step 0, z=4 no dud, z=9 a dud by step 1. */
    private static final String TWO = "s10 5 4 2;s20 5 6 0;";
    private static final int[] DRAWS = {0, 1, 2, 4, 9, 37, 5000, 9997, 9998, 9999};

    private DoingEdgeTests() {
    }

    public static void main(String[] args) {
        lineAtFirst();
        noStepsToGoThrough();
        becomesADudOnce();
        foundButForMiss();
        goesNoFurther();
        soldAtTheEnd();
        soldDudCosts();
        madeByZ();
        drawNeverWrapsAround();
        drawOfFault();
        lookedAtOnlyIfNoDud();
        drawOfMiss();
        drawsOfEveryStep();
        madeAtMost();
        thereAre9999();
        countedEach();
        costAtMost();
        lookedOrNotAnyMore();
        lookedAlready();
        skillFromNowOn();
        skillOfEveryFault();
        movedAhead();
        movedWhoStood();
        movedFirst();
        movedAgainstAhead();
        undoneNone();
        undoneEach();
        tenAreKnown();
        olderAreLost();
        ringOfMoments();
        stepOfEach();
        lineOfEach();
        nowOfEach();
        Check.end("DoingEdgeTests");
    }

    private static void is(String what, long got, long due) {
        Document.is(what, got, due);
    }

    private static void lineAtFirst() {
        Document.says("THE LINE: all STEPS, by numbers at first, none LOOKED behind.");
        for (int n = 0; n <= 5; n++) {
            NeedleHands x = Check.told(STEP.repeat(n));
            for (int s = 0; s < n; s++) {
                is("the " + s + "-th of " + n, x.line(s), s);
                is("step " + s + " of " + n + " stands", x.step(s, 6), s);
                is("step " + s + " of " + n + " is not looked behind", x.step(s, 4), 0);
            }
            is("none beyond " + n, x.line(n), BAD);
            is("none looked behind", x.now(5), 0);
        }
    }

    private static void noStepsToGoThrough() {
        Document.says("A NEEDLE goes through THE LINE, STEP by STEP: its SECONDS;");
        NeedleHands x = new NeedleHands();
        is("an empty line makes no dud", x.makes(9999), 0);
        is("it is sold", x.now(1), 1);
        is("it costs nothing", x.now(4), 0);
        is("it may be undone", x.undo(), 0);
        NeedleHands y = Check.told("s99 0 30 0;".repeat(5));
        y.makes(0);
        is("five steps of 99", y.now(4), 495);
        for (int s = 0; s < 5; s++) {
            y.looks(s, 1);
        }
        y.makes(0);
        is("five steps of 99 and looks of 30", y.now(4), 495 + 645);
    }

    private static void becomesADudOnce() {
        Document.says("if it is no DUD, it becomes one by FAULT of 10, by that STEP;");
        NeedleHands never = Check.told("s1 0 1 0;".repeat(5));
        for (int z = 0; z < 400; z++) {
            is("fault 0 makes no dud of " + z, never.makes(z), 0);
        }
        NeedleHands x = Check.told(TWO + "p99;");
        is("a dud by step 0", x.makes(0), 1);
        is("it is one dud", x.now(2), 1);
        is("and costs the price once", x.now(4), 10 + 20 + 99);
        x.skill(1, 9);
        is("a dud by both is one dud", x.makes(0), 1);
        is("two duds", x.now(2), 2);
        is("and the price twice", x.now(4), 2 * (10 + 20 + 99));
    }

    private static void foundButForMiss() {
        Document.says("if it is LOOKED behind the STEP: LOOK seconds, and a DUD is found, but for MISS of 10:");
        NeedleHands always = Check.told("s1 9 1 0;");
        NeedleHands seldom = Check.told("s1 9 1 9;");
        always.looks(0, 1);
        seldom.looks(0, 1);
        for (int z = 0; z < 200; z++) {
            int draw = draw(z, 5);
            boolean isDud = draw(z, 0) < 9;
            is("miss 0 overlooks no dud, z " + z, always.makes(z), isDud ? 2 : 0);
            is("miss 9 finds one by a draw of 9 alone, z " + z, seldom.makes(z), !isDud ? 0 : draw == 9 ? 2 : 1);
        }
        NeedleHands good = Check.told("s1 0 30 0;");
        good.makes(0);
        is("no look, no seconds of it", good.now(4), 1);
        good.looks(0, 1);
        is("no dud, nothing is found", good.makes(0), 0);
        is("but it was looked", good.now(4), 32);
    }

    private static void goesNoFurther() {
        Document.says("then it is THROWN, and goes no further.");
        NeedleHands x = Check.told("s10 9 4 0;s20 0 6 0;s30 0 7 0;");
        for (int s = 0; s < 3; s++) {
            x.looks(s, 1);
        }
        is("found at once", x.makes(0), 2);
        is("neither seconds nor looks behind that", x.now(4), 14);
        is("thrown behind step 0", x.step(0, 5), 1);
        is("not behind step 1", x.step(1, 5), 0);
        is("not behind step 2", x.step(2, 5), 0);
        x.looks(0, 0);
        is("found behind the next one", x.makes(0), 2);
        is("a look that is not looked costs nothing", x.now(4), 14 + 36);
        is("thrown behind step 1", x.step(1, 5), 1);
        is("thrown in all", x.now(3), 2);
        is("none are sold", x.now(1), 0);
    }

    private static void soldAtTheEnd() {
        Document.says("Else it is SOLD at the end;");
        NeedleHands x = Check.told("s10 9 4 9;".repeat(5));
        for (int s = 0; s < 5; s++) {
            x.looks(s, 1);
        }
        int sold = 0;
        for (int z = 0; z < 100; z++) {
            int fate = x.makes(z);
            sold += fate == 2 ? 0 : 1;
            is("sold behind z " + z, x.now(1), sold);
            is("thrown behind z " + z, x.now(3), z + 1 - sold);
        }
        Document.holds("some are sold and some are thrown", sold > 0 && sold < 100);
    }

    private static void soldDudCosts() {
        Document.says("a DUD that is SOLD costs PRICE.");
        int[] prices = {0, 1, 99};
        for (int price : prices) {
            NeedleHands x = Check.told(TWO + "p" + price + ";");
            x.makes(4);
            is("no dud, price " + price, x.now(4), 30);
            x.makes(0);
            is("a dud, price " + price, x.now(4), 60 + price);
            x.looks(0, 1);
            x.makes(0);
            is("one that is thrown, price " + price, x.now(4), 60 + price + 14);
        }
    }

    private static void madeByZ() {
        Document.says("MADE by z (0 .. 9999): one NEEDLE.");
        NeedleHands x = Check.told(TWO);
        is("0", x.makes(0), 1);
        is("9999", x.makes(9999), 1);
        is("-1", x.makes(-1), BAD);
        is("10000", x.makes(10000), BAD);
        is("the least of all", x.makes(Integer.MIN_VALUE), BAD);
        is("the most of all", x.makes(Integer.MAX_VALUE), BAD);
        is("two are made", x.now(0), 2);
        is("two may be undone", x.count(3), 2);
    }

    /** The document's own words, by numbers that never wrap around. */
    private static int draw(int z, int number) {
        BigInteger q = BigInteger.valueOf(7919).multiply(BigInteger.valueOf(z))
                .add(BigInteger.valueOf(6151).multiply(BigInteger.valueOf(number))).add(BigInteger.ONE);
        return q.multiply(q).mod(BigInteger.valueOf(65521)).divide(BigInteger.valueOf(8)).mod(BigInteger.TEN).intValue();
    }

    private static void drawNeverWrapsAround() {
        Document.says("DRAW of something is ((q times q) modulo 65521) by 8, cut, modulo 10, q being 7919 z, 6151 its number and 1 together;");
        // q of 9999 is 79182082 and more: its square is far beyond an int.
        int[] due = {2, 6, 6, 1, 2};
        for (int s = 0; s < 5; s++) {
            NeedleHands x = Check.told(STEP.repeat(5));
            for (int f = 0; f <= 9; f++) {
                x.skill(s, f);
                is("z 9999, step " + s + ", f " + f, x.makes(9999), due[s] < f ? 1 : 0);
            }
        }
    }

    private static void drawOfFault() {
        Document.says("It becomes a DUD, if the DRAW of FAULT is below FAULT");
        is("by hand: 1 by 8 is 0", draw(0, 0), 0);
        is("by hand: 6152 times 6152 modulo 65521 is 41487, by 8 is 5185", draw(0, 1), 5);
        for (int s = 0; s < 5; s++) {
            for (int z : DRAWS) {
                NeedleHands x = Check.told(STEP.repeat(5));
                int draw = draw(z, s);
                x.skill(s, draw);
                is("step " + s + " z " + z + ": " + draw + " is not below " + draw, x.makes(z), 0);
                if (draw < 9) {
                    x.skill(s, draw + 1);
                    is("step " + s + " z " + z + ": " + draw + " is below one more", x.makes(z), 1);
                    x.skill(s, 9);
                    is("step " + s + " z " + z + ": " + draw + " is below 9", x.makes(z), 1);
                }
            }
        }
    }

    /** A dud's cause shows by who is to be thrown: behind step 0 those alone that step 0 made. */
    private static void lookedAtOnlyIfNoDud() {
        Document.says("(looked at only if it is no DUD yet);");
        for (int z : DRAWS) {
            NeedleHands x = Check.told("s1 5 1 0;s1 5 1 0;p99;");
            boolean byFirst = draw(z, 0) < 5;
            boolean bySecond = draw(z, 1) < 5;
            is("z " + z, x.makes(z), byFirst || bySecond ? 1 : 0);
            is("z " + z + " is one dud at most", x.now(2), byFirst || bySecond ? 1 : 0);
            is("z " + z + " costs the price once at most", x.now(4), byFirst || bySecond ? 101 : 2);
            x.looks(0, 1);
            is("z " + z + " by the first", x.makes(z), byFirst ? 2 : bySecond ? 1 : 0);
        }
    }

    private static void drawOfMiss() {
        Document.says("a DUD is not found, if the DRAW of MISS is below MISS.");
        for (int s = 0; s < 5; s++) {
            for (int z : DRAWS) {
                int draw = draw(z, s + 5);
                if (draw(z, s) < 9) {
                    is("step " + s + " z " + z + ", as much", fateByMiss(s, z, draw), 2);
                    is("step " + s + " z " + z + ", none", fateByMiss(s, z, 0), 2);
                    is("step " + s + " z " + z + ", one more", fateByMiss(s, z, Math.min(9, draw + 1)), draw < 9 ? 1 : 2);
                }
            }
        }
    }

    private static int fateByMiss(int s, int z, int miss) {
        NeedleHands x = Check.told(STEP.repeat(s) + "s1 9 1 " + miss + ";" + STEP.repeat(4 - s));
        x.looks(s, 1);
        return x.makes(z);
    }

    /** A step's draws are by its number, wherever it stands in the line. */
    private static void drawsOfEveryStep() {
        Document.says("a STEP's FAULT has the STEP's number, its MISS has that and 5.");
        for (int z : DRAWS) {
            NeedleHands x = Check.told(STEP.repeat(4) + "s1 5 1 5;");
            x.looks(4, 1);
            int due = draw(z, 4) >= 5 ? 0 : draw(z, 9) < 5 ? 1 : 2;
            is("last, z " + z, x.makes(z), due);
            for (int i = 4; i > 0; i--) {
                x.moves(i);
                is("as " + (i - 1) + "-th, z " + z, x.makes(z), due);
            }
        }
    }

    /** Needs more calls than 512, beyond which the document promises nothing; the class holds it there too. */
    private static void madeAtMost() {
        Document.says("Counted: NEEDLES MADE (9999 at most),");
        NeedleHands x = Check.told(TWO);
        x.looks(1, 1);
        for (int z = 0; z < 9998; z++) {
            x.makes(z);
        }
        Document.holds("the 9999th is made", x.makes(9998) >= 0);
        is("they are 9999", x.now(0), 9999);
        List<String> before = Shown.moment(x);
        is("there are 9999", x.makes(0), STATE);
        is("a number that is wrong comes first", x.makes(10000), BAD);
        Document.holds("nothing changes", Shown.moment(x).equals(before));
        is("ten may be undone still", x.undo(), 9);
        is("one less", x.now(0), 9998);
        Document.holds("one more may be made", x.makes(0) >= 0);
        is("and then none", x.makes(0), STATE);
        is("sold and thrown", x.now(1) + x.now(3), 9999);
    }

    /** Needs more calls than 512, too: by an image that is kept at 9999, and back there. */
    private static void thereAre9999() {
        Document.says("MADE by z: 0 SOLD, no DUD, 1 SOLD, a DUD, 2 THROWN. BAD; STATE: there are 9999.");
        NeedleHands x = Check.told(STEP);
        for (int n = 1; n <= 9999; n++) {
            is("the " + n + "-th", x.makes(n % 10000), 0);
        }
        is("kept", x.keep(0), 9999);
        is("one too many", x.makes(0), STATE);
        is("one too many, by the last number", x.makes(9999), STATE);
        is("no such number", x.makes(-1), BAD);
        is("ten may be undone", x.count(3), 10);
        is("a look may be set still", x.looks(0, 1), 1);
        is("one too many still", x.makes(0), STATE);
        x.undo();
        x.undo();
        is("one less", x.now(0), 9998);
        is("room for one", x.makes(0), 0);
        x.undo();
        is("back", x.back(0), 9999);
        is("no room", x.makes(0), STATE);
        is("a sack of as many", x.mark(5, 0), 10000);
    }

    private static void countedEach() {
        Document.says("SOLD, DUDS SOLD, THROWN behind each STEP;");
        NeedleHands x = Check.told("s1 2 1 5;".repeat(5));
        int[] draws = {0, 420, 136, 11, 22};
        for (int s = 0; s < 5; s++) {
            x.looks(s, 1);
        }
        // Each of these is a dud by another step, found behind that one.
        for (int s = 0; s < 5; s++) {
            is("thrown behind " + s, x.makes(draws[s]), 2);
            for (int other = 0; other < 5; other++) {
                is("behind " + other, x.step(other, 5), other <= s ? 1 : 0);
            }
            is("thrown in all", x.now(3), s + 1);
        }
        for (int s = 0; s < 5; s++) {
            x.looks(s, 0);
        }
        for (int s = 0; s < 5; s++) {
            is("sold, a dud, " + s, x.makes(draws[s]), 1);
            is("duds sold", x.now(2), s + 1);
            is("sold", x.now(1), s + 1);
            is("thrown as before", x.now(3), 5);
        }
    }

    /** Needs more calls than 512, too. */
    private static void costAtMost() {
        Document.says("COST (seconds, and PRICE for each DUD SOLD; 9999999 at most).");
        NeedleHands x = Check.told("s99 9 30 9;".repeat(5) + "p99;");
        for (int s = 0; s < 5; s++) {
            x.looks(s, 1);
        }
        long due = 0;
        for (int z = 0; z < 9999; z++) {
            int before = x.now(4);
            int fate = x.makes(z);
            int cost = x.now(4) - before;
            is("a needle that goes to the end costs all, z " + z, fate == 2 || cost == 645 + 99 * fate ? 1 : 0, 1);
            due += cost;
        }
        is("all together", x.now(4), due);
        Document.holds("the dearest of all texts stays below", x.now(4) <= 9999999);
    }

    private static void lookedOrNotAnyMore() {
        Document.says("LOOKED: a STEP is, or is not any more.");
        NeedleHands x = Check.told(STEP.repeat(5));
        for (int s = 0; s < 5; s++) {
            is("set behind " + s, x.looks(s, 1), s + 1);
            is("it is", x.step(s, 4), 1);
        }
        is("behind all", x.now(5), 31);
        for (int s = 0; s < 5; s++) {
            is("left behind " + s, x.looks(s, 0), 4 - s);
            is("it is not", x.step(s, 4), 0);
        }
        is("behind none", x.now(5), 0);
    }

    private static void lookedAlready() {
        Document.says("LOOKED behind (1), not (0): how many are. BAD; STATE: it is so.");
        NeedleHands x = Check.told(STEP.repeat(2));
        is("it is not", x.looks(0, 0), STATE);
        is("1 is the last that is taken", x.looks(0, 1), 1);
        is("it is", x.looks(0, 1), STATE);
        is("2 is not taken", x.looks(0, 2), BAD);
        is("-1 is not taken", x.looks(0, -1), BAD);
        is("the last step", x.looks(1, 1), 2);
        is("beyond it", x.looks(2, 1), BAD);
        is("beyond it, though that would be so", x.looks(2, 0), BAD);
        is("ahead of the first", x.looks(-1, 1), BAD);
        is("two may be undone", x.count(3), 2);
        is("both are", x.now(5), 3);
    }

    private static void skillFromNowOn() {
        Document.says("SKILL: FAULT of a STEP is f (0 .. 9) from now on.");
        NeedleHands x = Check.told(TWO);
        is("a dud ahead of it", x.makes(0), 1);
        is("f of 0", x.skill(0, 0), 5);
        is("the other one's is as it was", x.step(1, 1), 5);
        x.skill(1, 0);
        is("none behind it", x.makes(0), 0);
        is("the one ahead of it is one still", x.now(2), 1);
        is("f of 9", x.skill(0, 9), 0);
        is("f of 10", x.skill(0, 10), BAD);
        is("f of -1", x.skill(0, -1), BAD);
        is("step -1", x.skill(-1, 5), BAD);
        is("step 2", x.skill(2, 5), BAD);
        is("it is 9", x.step(0, 1), 9);
        is("five may be undone", x.count(3), 5);
    }

    private static void skillOfEveryFault() {
        Document.says("SKILL: what FAULT was. BAD.");
        NeedleHands x = Check.told(STEP.repeat(5));
        for (int s = 0; s < 5; s++) {
            for (int f = 0; f <= 9; f++) {
                is("step " + s + " was", x.skill(s, f), Math.max(0, f - 1));
                is("step " + s + " is", x.step(s, 1), f);
            }
            is("the same again", x.skill(s, 9), 9);
        }
        NeedleHands y = Check.told(STEP);
        is("what it is already", y.skill(0, 0), 0);
        is("may be undone, too", y.undo(), 0);
    }

    private static void movedAhead() {
        Document.says("MOVED: a STEP that stands i-th in THE LINE goes ahead of the one in front of it.");
        for (int n = 2; n <= 5; n++) {
            for (int i = 1; i < n; i++) {
                NeedleHands x = Check.told(STEP.repeat(n));
                is("the " + i + "-th of " + n, x.moves(i), i - 1);
                for (int j = 0; j < n; j++) {
                    int due = j == i ? i - 1 : j == i - 1 ? i : j;
                    is("the " + j + "-th then", x.line(j), due);
                    is("who stands " + j + "-th", x.step(due, 6), j);
                }
            }
        }
        NeedleHands y = Check.told(STEP.repeat(5));
        for (int i = 4; i > 0; i--) {
            y.moves(i);
        }
        for (int i = 0; i < 5; i++) {
            is("the last one came to the front, " + i, y.line(i), (i + 4) % 5);
        }
    }

    private static void movedWhoStood() {
        Document.says("MOVED: who stood in front of it.");
        NeedleHands x = Check.told(STEP.repeat(5));
        is("0 in front of the second", x.moves(1), 0);
        is("0 in front of the third now", x.moves(2), 0);
        is("1 in front of the second now", x.moves(1), 1);
        is("3 in front of the last", x.moves(4), 3);
        int[] due = {2, 1, 0, 4, 3};
        for (int i = 0; i < 5; i++) {
            is("the " + i + "-th", x.line(i), due[i]);
        }
    }

    private static void movedFirst() {
        Document.says("BAD (the first one, too);");
        for (int n = 0; n <= 5; n++) {
            NeedleHands x = Check.told(STEP.repeat(n));
            is("the first of " + n, x.moves(0), BAD);
            is("beyond " + n, x.moves(n), BAD);
            is("far beyond " + n, x.moves(Integer.MAX_VALUE), BAD);
            is("-1 of " + n, x.moves(-1), BAD);
            is("far below", x.moves(Integer.MIN_VALUE), BAD);
            is("nothing to be undone", x.count(3), 0);
        }
    }

    private static void movedAgainstAhead() {
        Document.says("STATE: that one must be done AHEAD of it.");
        NeedleHands x = Check.told(STEP.repeat(3) + "h0 2;");
        is("1 goes ahead of 0", x.moves(1), 0);
        is("2 can't go ahead of 0", x.moves(2), STATE);
        is("nothing to be undone by that", x.count(3), 1);
        is("the line is as it was", x.line(2), 2);
        is("0 goes ahead of 1, which it need not be", x.moves(1), 1);
        is("2 goes ahead of 1", x.moves(2), 1);
        is("and no further", x.moves(1), STATE);
        is("1 behind 2 goes back ahead of it", x.moves(2), 2);
    }

    private static void undoneNone() {
        Document.says("UNDONE: how many more may be. STATE: none.");
        NeedleHands x = Check.told(TWO);
        is("none", x.undo(), STATE);
        x.looks(0, 1);
        is("the only one", x.undo(), 0);
        is("none any more", x.undo(), STATE);
        is("none may be", x.count(3), 0);
        x.type('p');
        x.tells(0, 0);
        x.keep(0);
        x.mark(0, 0);
        x.looks(0, 0);
        x.moves(0);
        x.makes(10000);
        is("neither types, tells, images, marks nor what is refused", x.undo(), STATE);
    }

    private static void undoneEach() {
        Document.says("UNDONE: the latest MADE, LOOKED, SKILL, MOVED");
        for (int how = 0; how < 6; how++) {
            NeedleHands x = Check.told(TWO);
            x.looks(0, 1);
            x.makes(0);
            x.makes(4);
            List<String> before = Shown.moment(x);
            act(x, how);
            Document.holds("a change, " + how, !Shown.moment(x).equals(before));
            is("undone, " + how, x.undo(), 3);
            Document.holds("all is as ahead of it, " + how, Shown.moment(x).equals(before));
        }
    }

    /** Six ways of a change of TWO with a look behind step 0; whichever comes, it may be undone. */
    private static void act(NeedleHands x, int how) {
        switch (how) {
            case 0: x.makes(0); break;
            case 1: x.makes(4); break;
            case 2: x.makes(9); break;
            case 3: x.looks(1, 1 - x.step(1, 4)); break;
            case 4: x.skill(1, (x.step(1, 1) + 3) % 10); break;
            default: x.moves(1); break;
        }
    }

    private static void tenAreKnown() {
        Document.says("(10 are known,");
        NeedleHands x = Check.told(TWO);
        for (int n = 1; n <= 25; n++) {
            act(x, n % 6);
            is("behind " + n, x.count(3), Math.min(n, 10));
        }
        for (int more = 9; more >= 0; more--) {
            is("undone", x.undo(), more);
            is("may be", x.count(3), more);
        }
        is("no eleventh", x.undo(), STATE);
    }

    /** Each way of a change shows here, by few calls, so that a run of many changes stays within 512. */
    private static String brief(NeedleHands x) {
        return x.line(0) + " " + x.step(1, 1) + " " + x.step(0, 5) + " " + x.now(4) + " " + x.now(5);
    }

    private static void olderAreLost() {
        Document.says("older ones are lost): all is as ahead of it.");
        for (int done = 9; done <= 23; done++) {
            NeedleHands x = Check.told(TWO);
            List<String> moments = new ArrayList<>();
            for (int n = 0; n < done; n++) {
                moments.add(brief(x));
                act(x, n % 6);
            }
            int known = Math.min(done, 10);
            for (int turn = 1; turn <= known; turn++) {
                x.undo();
                boolean isSame = brief(x).equals(moments.get(done - turn));
                Document.holds("of " + done + ", " + turn + " undone", isSame);
            }
            is("of " + done + " no more", x.undo(), STATE);
            Document.holds("of " + done + ", as it stays", brief(x).equals(moments.get(done - known)));
        }
    }

    /** Doing and undoing in turns, held against a row that knows all moments. */
    private static void ringOfMoments() {
        Document.says("(10 are known, older ones are lost)");
        NeedleHands x = Check.told(TWO);
        List<String> moments = new ArrayList<>();
        int[] turns = {7, -3, 8, -10, 3, -2, 12, -4, 1, -7, -1};
        int way = 0;
        for (int turn : turns) {
            for (int n = 0; n < Math.abs(turn); n++) {
                if (turn > 0) {
                    moments.add(brief(x));
                    act(x, way++ % 6);
                    if (moments.size() > 10) {
                        moments.remove(0);
                    }
                } else {
                    is("undo", x.undo(), moments.isEmpty() ? STATE : moments.size() - 1);
                    if (!moments.isEmpty()) {
                        String due = moments.remove(moments.size() - 1);
                        Document.holds("as it was", brief(x).equals(due));
                    }
                }
                is("may be undone", x.count(3), moments.size());
            }
        }
    }

    private static void stepOfEach() {
        Document.says("Of a STEP: 0 SECONDS, 1 FAULT as it is NOW, 2 LOOK, 3 MISS, 4 whether LOOKED behind, "
                + "5 how many were THROWN behind it, 6 as how many-th it stands in THE LINE, "
                + "7 STEPS it must be AHEAD of (bits). BAD.");
        for (int n = 0; n <= 5; n++) {
            NeedleHands x = Check.told(STEP.repeat(n));
            for (int what = 0; what <= 7; what++) {
                is("-1 of " + n, x.step(-1, what), BAD);
                is("beyond " + n, x.step(n, what), BAD);
            }
            for (int s = 0; s < n; s++) {
                is("8 of " + s, x.step(s, 8), BAD);
                is("-1 of " + s, x.step(s, -1), BAD);
                is("7 of " + s, x.step(s, 7), 0);
                is("0 of " + s, x.step(s, 0), 1);
            }
        }
    }

    private static void lineOfEach() {
        Document.says("Who is the i-th in THE LINE (0 the first). BAD.");
        NeedleHands x = Check.told(STEP.repeat(2));
        x.moves(1);
        is("the first", x.line(0), 1);
        is("the last", x.line(1), 0);
        is("beyond it", x.line(2), BAD);
        is("ahead of the first", x.line(-1), BAD);
        is("far beyond", x.line(Integer.MAX_VALUE), BAD);
        is("far below", x.line(Integer.MIN_VALUE), BAD);
    }

    private static void nowOfEach() {
        Document.says("0 MADE, 1 SOLD, 2 DUDS SOLD, 3 THROWN, 4 COST, 5 LOOKED behind (bits). BAD.");
        NeedleHands x = Check.told(TWO + "p9;");
        x.makes(0);
        x.makes(4);
        x.makes(4);
        x.looks(1, 1);
        x.makes(0);
        x.makes(0);
        x.makes(9);
        int[] due = {6, 3, 1, 3, 39 + 30 + 30 + 36 + 36 + 36, 2};
        for (int what = 0; what < due.length; what++) {
            is("now " + what, x.now(what), due[what]);
        }
        is("now 6", x.now(6), BAD);
        is("now -1", x.now(-1), BAD);
        is("far beyond", x.now(Integer.MAX_VALUE), BAD);
        is("far below", x.now(Integer.MIN_VALUE), BAD);
    }
}

/**
 * The line, faults and looks as they are NOW: answers worked out by hand where the line is no longer by
 * numbers, where a hand is not as the text told it, and where looks are set.
 */
public final class NowTests {
    private static final int NONE = NeedleHands.NONE;

    /** Faults of 0 and 5; the look behind the first is cheap, the one behind the other is dear. */
    private static final String CHEAP_AND_DEAR = "s10 0 1 0;s20 5 30 0;p50;";
    private static final String THREE = "s10 5 4 0;s20 0 6 0;s40 5 8 0;p50;";

    private NowTests() {
    }

    public static void main(String[] args) {
        placesInATurnedLine();
        thrownBehindTheStep();
        blameByPlaces();
        looksOfAMovedLine();
        looksOfOtherHands();
        fewOfAMovedLine();
        fewOfOtherHands();
        orderOfOtherHands();
        orderWhateverTheLine();
        keptNeedlesAreThoseMade();
        Check.end("NowTests");
    }

    /** The line 2 0 1: no two steps have changed places with one another, so that places aren't steps. */
    private static NeedleHands turned() {
        NeedleHands x = Check.told(THREE);
        Document.is("1 stood in front of 2", x.moves(2), 1);
        Document.is("0 stood in front of 2", x.moves(1), 0);
        return x;
    }

    private static void placesInATurnedLine() {
        Document.says("6 as how many-th it stands in THE LINE");
        NeedleHands x = turned();
        int[] line = {2, 0, 1};
        for (int i = 0; i < line.length; i++) {
            Document.is("line " + i, x.line(i), line[i]);
            Document.is("the place of " + line[i], x.step(line[i], 6), i);
        }
    }

    private static void thrownBehindTheStep() {
        Document.says("5 how many were THROWN behind it");
        NeedleHands x = turned();
        x.looks(2, 1);
        x.skill(2, 9);
        // q is 12303, its square leaves 10299, an eighth of that is 1287: 7 is below 9.
        Document.is("a dud that is found", x.makes(0), 2);
        Document.is("thrown behind 2, which stands first", x.step(2, 5), 1);
        Document.is("thrown behind 0", x.step(0, 5), 0);
        Document.is("thrown behind 1", x.step(1, 5), 0);
        Document.is("40 seconds and a look of 8", x.now(4), 48);
        Document.is("blue: 40 less 8 and the one thrown", x.mark(4, 2), 33);
    }

    private static void blameByPlaces() {
        Document.says("BLAME: a DUD was found behind the i-th STEP of THE LINE");
        NeedleHands x = turned();
        x.looks(2, 1);
        Document.is("2 stands first and made it, upper", x.blame(0, 0, 0), 1);
        Document.is("2 stands first and made it, lower", x.blame(0, 0, 1), 1);
        Document.is("the first one is to be asked", x.first(0), 0);
        Document.is("1 stands last and is not looked behind", x.blame(2, 0, 0), NONE);
        Document.is("nobody is to be asked there", x.first(2), NONE);
        x.looks(1, 1);
        Document.is("what 2 made was found ahead, upper", x.blame(2, 0, 0), 0);
        Document.is("what 2 made was found ahead, lower", x.blame(2, 0, 1), 1);
        Document.is("0 made all that are found at the end", x.blame(2, 1, 0), 1);
        Document.is("0 stands second", x.first(2), 1);
    }

    private static void looksOfAMovedLine() {
        Document.says("(Nothing is changed; THE LINE, FAULTS, LOOKS as they are NOW.)");
        NeedleHands x = Check.told(CHEAP_AND_DEAR);
        // None 55, behind 0 alone 56, behind 1 alone 60, both 61.
        Document.is("by numbers none pays", x.bestLooks(), 0);
        x.moves(1);
        // None 55, behind 0 alone 31, behind 1 alone 55, both 55 and a half.
        Document.is("the cheap look at the end pays", x.bestLooks(), 1);
        x.looks(1, 1);
        Document.is("looks that are set do not stay", x.bestLooks(), 1);
    }

    private static void looksOfOtherHands() {
        Document.says("SKILL: FAULT of a STEP is f (0 .. 9) from now on.");
        NeedleHands x = Check.told(CHEAP_AND_DEAR);
        x.skill(0, 5);
        x.skill(1, 0);
        // None 55, behind 0 alone 21, behind 1 alone 60, both 36.
        Document.is("the first hand is the worse one now", x.bestLooks(), 1);
    }

    private static void fewOfAMovedLine() {
        Document.says("to be LOOKED behind so that of 25 NEEDLES that are SOLD v tenths or fewer");
        NeedleHands x = Check.told(CHEAP_AND_DEAR);
        Document.is("by numbers only a look behind 1 finds them", x.few(0), 2);
        x.moves(1);
        Document.is("behind 0, at the end, does as well", x.few(0), 1);
    }

    private static void fewOfOtherHands() {
        Document.says("SKILL: FAULT of a STEP is f (0 .. 9) from now on.");
        NeedleHands x = Check.told(CHEAP_AND_DEAR);
        x.skill(1, 0);
        Document.is("where no hand fails nobody looks", x.few(0), 0);
        x.skill(0, 1);
        Document.is("one of 10 is 25 tenths of 25", x.few(25), 0);
        Document.is("that is more than 24 tenths", x.few(24), 1);
    }

    private static void orderOfOtherHands() {
        Document.says("ORDER: of all orders of STEPS by which each AHEAD is so that by which MEAN COST is least");
        NeedleHands x = Check.told(CHEAP_AND_DEAR);
        x.looks(0, 1);
        // 0 1 costs 56, 1 0 costs 31.
        Document.is("first is the one that fails", x.bestOrder(0), 1);
        Document.is("then the one that is looked behind", x.bestOrder(1), 0);
        x.skill(0, 5);
        x.skill(1, 0);
        // 0 1 costs 21, 1 0 costs 31.
        Document.is("first is now the one that fails now", x.bestOrder(0), 0);
        Document.is("then the other", x.bestOrder(1), 1);
    }

    private static void orderWhateverTheLine() {
        Document.says("of several the first (by numbers): who is the i-th.");
        NeedleHands x = turned();
        // Without looks every order costs the same.
        for (int i = 0; i < 3; i++) {
            Document.is("the " + i + "-th, though the line is 2 0 1", x.bestOrder(i), i);
        }
    }

    private static void keptNeedlesAreThoseMade() {
        Document.says("An IMAGE is kept: NEEDLES MADE. BAD.");
        NeedleHands x = turned();
        x.looks(2, 1);
        x.skill(2, 9);
        x.makes(0);
        Document.is("one was made though none was sold", x.keep(0), 1);
        Document.is("none was sold", x.now(1), 0);
        x.undo();
        Document.is("that one is made again", x.back(0), 1);
    }
}

import java.util.EnumSet;
import java.util.List;
import java.util.Set;
import java.util.function.Consumer;

/** Part 4 of the terms, and the promises from mark to trace: each edge by its sentence. */
public final class KindsEdgeTests {
    private static final int BAD = -1;
    private static final int STATE = -2;
    private static final int NO = -1000000;
    private static final String STEP = "s1 0 1 0;";
    /** Two steps whose draws are known: z=0 is a dud by step 0, z=4 no dud, z=9 a dud by step 1. */
    private static final String TWO = "s10 5 4 2;s20 5 6 0;";
    private static final int[] FAR = {Integer.MIN_VALUE, Integer.MAX_VALUE};

    private KindsEdgeTests() {
    }

    public static void main(String[] args) {
        kindsOfEach();
        markOfTheLeast();
        markBelowZero();
        markAtMost();
        markOfStepsThere();
        markOfWhatIsCounted();
        traceOfEach();
        traceOfRefused();
        traceStays();
        imagesOfEach();
        noneWasKept();
        imageKeepsAll();
        imageKeepsNothingElse();
        imageIsKeptOver();
        imagesAreApart();
        imageOfTenUndone();
        readAnewAsTold();
        readAnewNothingMade();
        readAnewImagesGone();
        faultyTextReadsNothing();
        countOfEach();
        Check.end("KindsEdgeTests");
    }

    private static void is(String what, long got, long due) {
        Document.is(what, got, due);
    }

    private static void kindsOfEach() {
        Document.says("0 STEP; 1 POINT, 2 EYE, 5 SACK (each under STEP); 3 TRUE (under POINT); 4 BLUE (under EYE).");
        NeedleHands x = Check.told("s10 5 4 2;");
        x.looks(0, 1);
        x.makes(0);
        x.makes(0);
        x.makes(4);
        int[] due = {10, 15, 6, 30, 8, 13};
        for (int kind = 0; kind <= 5; kind++) {
            is("kind " + kind, x.mark(kind, 0), due[kind]);
        }
        is("kind 6", x.mark(6, 0), NO);
        is("kind -1", x.mark(-1, 0), NO);
        for (int far : FAR) {
            is("kind " + far, x.mark(far, 0), NO);
        }
    }

    private static void markOfTheLeast() {
        Document.says("STEP its SECONDS (1). POINT up, and FAULT (10). EYE up less LOOK (100).");
        NeedleHands least = Check.told("s1 0 30 0;");
        NeedleHands most = Check.told("s99 9 1 9;");
        int[] leastMarks = {1, 1, -29, 2, -29, 1};
        int[] mostMarks = {99, 108, 98, 216, 98, 99};
        for (int kind = 0; kind <= 5; kind++) {
            is("the least, kind " + kind, least.mark(kind, 0), leastMarks[kind]);
            is("the most, kind " + kind, most.mark(kind, 0), mostMarks[kind]);
        }
    }

    /** A mark may be any number that other calls refuse by, so that refusing has one of its own. */
    private static void markBelowZero() {
        Document.says("What none is, where a number may be below 0.");
        for (int look = 1; look <= 30; look++) {
            NeedleHands x = Check.told("s1 0 " + look + " 0;");
            is("an eye of 1 less " + look, x.mark(2, 0), 1 - look);
            is("a blue of 1 less " + look, x.mark(4, 0), 1 - look);
        }
    }

    private static void markAtMost() {
        Document.says("TRUE up times 2 (1000).");
        NeedleHands x = Check.told("s99 9 1 9;");
        is("the greatest point", x.mark(1, 0), 108);
        is("the greatest true", x.mark(3, 0), 216);
        is("the greatest eye", x.mark(2, 0), 98);
        x.skill(0, 0);
        is("the point by the fault as it is now", x.mark(1, 0), 99);
        is("the true by the fault as it is now", x.mark(3, 0), 198);
    }

    private static void markOfStepsThere() {
        Document.says("MARK. NO: BAD.");
        for (int n = 0; n <= 5; n++) {
            NeedleHands x = Check.told(STEP.repeat(n));
            for (int kind = 0; kind <= 5; kind++) {
                is("beyond " + n, x.mark(kind, n), NO);
                is("-1 of " + n, x.mark(kind, -1), NO);
                is("far beyond " + n, x.mark(kind, Integer.MAX_VALUE), NO);
                is("far below", x.mark(kind, Integer.MIN_VALUE), NO);
                is("the last of " + n, x.mark(kind, n - 1), n == 0 ? NO : new int[] {1, 1, 0, 2, 0, 1}[kind]);
            }
            is("a wrong kind of a wrong step", x.mark(6, n), NO);
        }
    }

    private static void markOfWhatIsCounted() {
        Document.says("BLUE up, and how many were THROWN behind it (10000). SACK up, and NEEDLES MADE (100000).");
        NeedleHands x = Check.told(TWO);
        is("none thrown", x.mark(4, 0), 6);
        is("none made", x.mark(5, 0), 10);
        x.looks(0, 1);
        for (int n = 1; n <= 12; n++) {
            x.makes(0);
            is("thrown " + n, x.mark(4, 0), 6 + n);
            is("made " + n, x.mark(5, 0), 10 + n);
        }
        is("none thrown behind the other", x.mark(4, 1), 14);
        is("made, of the other", x.mark(5, 1), 32);
        x.undo();
        is("one less thrown", x.mark(4, 0), 17);
        is("one less made", x.mark(5, 0), 21);
    }

    private static void traceOfEach() {
        Document.says("numbers in brackets come to THE TRACE as often as mark() asks that body;");
        long[] due = {1, 11, 101, 1011, 10101, 100001};
        for (int kind = 0; kind <= 5; kind++) {
            NeedleHands x = Check.told(STEP);
            is("at first", x.trace(), 0);
            for (int n = 1; n <= 400; n++) {
                x.mark(kind, 0);
            }
            is("400 of kind " + kind, x.trace(), 400 * due[kind]);
        }
    }

    private static void traceOfRefused() {
        Document.says("THE TRACE.");
        NeedleHands x = Check.told(STEP);
        x.mark(3, 0);
        for (int wrong : new int[] {-1, 1, Integer.MIN_VALUE, Integer.MAX_VALUE}) {
            for (int kind = 0; kind <= 5; kind++) {
                x.mark(kind, wrong);
            }
        }
        x.mark(6, 0);
        x.mark(-1, 0);
        is("of what was not refused", x.trace(), 1011);
        is("asking leaves none", x.trace(), 1011);
        is("a new object has its own", new NeedleHands().trace(), 0);
    }

    private static void traceStays() {
        Document.says("come to THE TRACE");
        NeedleHands x = Check.told(TWO);
        x.keep(0);
        x.skill(0, 1);
        x.mark(4, 0);
        x.undo();
        is("undone", x.trace(), 10101);
        x.back(0);
        is("back", x.trace(), 10101);
        Check.shop(x, "!");
        is("a faulty text", x.trace(), 10101);
        Check.shop(x, TWO);
        is("read anew", x.trace(), 10101);
        x.mark(0, 0);
        is("and on", x.trace(), 10102);
    }

    private static void imagesOfEach() {
        Document.says("An IMAGE is kept: NEEDLES MADE. BAD.");
        NeedleHands x = Check.told(TWO);
        is("image 0", x.keep(0), 0);
        x.makes(0);
        is("image 1", x.keep(1), 1);
        for (int wrong : new int[] {-1, 2, Integer.MIN_VALUE, Integer.MAX_VALUE}) {
            is("image " + wrong, x.keep(wrong), BAD);
            is("back of image " + wrong, x.back(wrong), BAD);
        }
        is("back of 0", x.back(0), 0);
        is("back of 1", x.back(1), 1);
        is("back of 1 again", x.back(1), 1);
    }

    private static void noneWasKept() {
        Document.says("BAD; STATE: none was kept.");
        NeedleHands x = Check.told(TWO);
        x.makes(0);
        is("image 0", x.back(0), STATE);
        is("image 1", x.back(1), STATE);
        x.keep(2);
        x.keep(-1);
        is("image 0 still", x.back(0), STATE);
        x.keep(1);
        is("0 is not 1", x.back(0), STATE);
        is("1 is", x.back(1), 1);
        is("made as it was", x.now(0), 1);
        NeedleHands y = new NeedleHands();
        is("of a new object", y.back(1), STATE);
        is("kept of a new object", y.keep(1), 0);
        is("back of a new object", y.back(1), 0);
    }

    /** TWO with each way of a change behind it. */
    private static void change(NeedleHands x) {
        x.looks(0, 1);
        x.makes(0);
        x.makes(4);
        x.skill(1, 8);
        x.moves(1);
        x.makes(9);
    }

    private static void changeOtherwise(NeedleHands x) {
        x.looks(1, 1);
        x.looks(0, 0);
        x.makes(0);
        x.skill(0, 1);
        x.skill(1, 2);
        x.moves(1);
        x.makes(9999);
        x.makes(4);
    }

    private static Shown shown(Consumer<NeedleHands> doing) {
        return new Shown(() -> {
            NeedleHands x = Check.told(TWO + "p7;");
            doing.accept(x);
            return x;
        });
    }

    private static void imageKeepsAll() {
        Document.says("IMAGES 0, 1 keep NOW (THE LINE, LOOKS, FAULTS, all that is counted, what may be UNDONE);");
        for (int image = 0; image <= 1; image++) {
            int kept = image;
            Shown then = shown(x -> {
                change(x);
                x.keep(kept);
            });
            Shown away = shown(x -> {
                change(x);
                x.keep(kept);
                changeOtherwise(x);
            });
            away.isOtherThan(then, "what was done", EnumSet.of(Shown.Part.STANDS, Shown.Part.PAST));
            Shown again = shown(x -> {
                change(x);
                x.keep(kept);
                changeOtherwise(x);
                x.back(kept);
            });
            again.isAsIn(then, "back of " + image, Set.of());
            Shown undone = shown(x -> {
                change(x);
                x.keep(kept);
                for (int n = 0; n < 6; n++) {
                    x.undo();
                }
                changeOtherwise(x);
                x.back(kept);
            });
            undone.isAsIn(then, "back behind undone ones of " + image, Set.of());
        }
    }

    private static void imageKeepsNothingElse() {
        Document.says("what may be UNDONE); nothing else.");
        NeedleHands x = Check.told(TWO + "p7;");
        x.tells(1, 1);
        Check.type(x, "p8");
        x.mark(0, 0);
        x.keep(0);
        x.tells(2, 1);
        x.tells(3, 1);
        x.type(';');
        x.mark(5, 0);
        x.keep(1);
        is("back", x.back(0), 0);
        is("what was told since stays", x.count(2), 3);
        is("the text stays", x.count(4), 3);
        is("the trace stays", x.trace(), 100002);
        is("the other image stays", x.back(1), 0);
        is("the price stays", x.count(1), 7);
        is("the text tells what it has", x.shop(), 1);
        is("that is", x.count(1), 8);
    }

    private static void imageIsKeptOver() {
        Document.says("All of that becomes as an IMAGE has it: NEEDLES MADE.");
        NeedleHands x = Check.told(TWO);
        x.makes(0);
        x.keep(0);
        x.makes(4);
        x.makes(4);
        is("kept over the older one", x.keep(0), 3);
        x.makes(4);
        is("as the newer one has it", x.back(0), 3);
        x.undo();
        x.undo();
        x.skill(0, 9);
        is("again, whatever was done since", x.back(0), 3);
        is("faults too", x.step(0, 1), 5);
        is("what may be undone too", x.count(3), 3);
        is("undone", x.undo(), 2);
        is("two are made", x.now(0), 2);
        is("the image has three still", x.back(0), 3);
    }

    private static void imagesAreApart() {
        Document.says("IMAGES 0, 1 keep NOW");
        NeedleHands x = Check.told(TWO);
        x.skill(0, 1);
        x.keep(0);
        x.skill(0, 2);
        x.skill(0, 3);
        x.keep(1);
        x.skill(0, 4);
        x.back(0);
        is("as 0 has it", x.step(0, 1), 1);
        is("and what may be undone", x.count(3), 1);
        x.back(1);
        is("as 1 has it", x.step(0, 1), 3);
        is("and what may be undone", x.count(3), 3);
        x.keep(0);
        x.undo();
        x.back(0);
        is("0 as it was kept last", x.step(0, 1), 3);
        x.undo();
        is("its own past", x.step(0, 1), 2);
        x.undo();
        is("its own past", x.step(0, 1), 1);
        x.undo();
        is("its own past", x.step(0, 1), 5);
        is("no more", x.undo(), STATE);
        x.back(1);
        is("1 is as it was", x.step(0, 1), 3);
    }

    private static void imageOfTenUndone() {
        Document.says("all that is counted, what may be UNDONE)");
        for (int done = 8; done <= 13; done++) {
            NeedleHands x = Check.told(TWO);
            for (int n = 0; n < done; n++) {
                x.makes(4);
            }
            x.keep(1);
            for (int n = 0; n < 14; n++) {
                x.skill(n % 2, n % 10);
            }
            is("back", x.back(1), done);
            int known = Math.min(done, 10);
            for (int turn = 1; turn <= known; turn++) {
                is("undone " + turn + " of " + done, x.undo(), known - turn);
                is("made", x.now(0), done - turn);
                is("fault", x.step(0, 1), 5);
                is("fault", x.step(1, 1), 5);
            }
            is("no more of " + done, x.undo(), STATE);
        }
    }

    private static NeedleHands readAnew(String text) {
        NeedleHands x = Check.told(TWO + "h0 1;p7;");
        x.makes(0);
        x.looks(0, 1);
        x.makes(0);
        x.makes(4);
        x.skill(1, 8);
        for (int what = 0; what <= 5; what++) {
            Document.holds("there is something to be forgotten, now " + what, x.now(what) > 0);
        }
        x.keep(0);
        x.keep(1);
        x.tells(0, 2);
        is("'" + text + "' is read", Check.shop(x, text), text.split(";").length);
        return x;
    }

    private static void readAnewAsTold() {
        Document.says("(Read anew: as told,");
        NeedleHands x = readAnew("s1 2 3 4;s5 6 7 8;s9 1 11 3;");
        int[][] due = {{1, 2, 3, 4, 0, 0, 0, 0}, {5, 6, 7, 8, 0, 0, 1, 0}, {9, 1, 11, 3, 0, 0, 2, 0}};
        for (int s = 0; s < 3; s++) {
            for (int what = 0; what <= 7; what++) {
                is("step " + s + " " + what, x.step(s, what), due[s][what]);
            }
            is("line", x.line(s), s);
        }
        is("steps", x.count(0), 3);
        is("price", x.count(1), 50);
        is("1 may go ahead of 0 now", x.moves(1), 0);
        NeedleHands fewer = readAnew("s1 2 3 4;");
        is("one step", fewer.count(0), 1);
        is("no second one", fewer.step(1, 0), BAD);
        is("no second place", fewer.line(1), BAD);
        is("sets of one step", fewer.who(0), 2);
        is("nothing but what is told", fewer.bestOrder(0), 0);
    }

    private static void readAnewNothingMade() {
        Document.says("nothing MADE, TOLD or to be UNDONE,");
        for (String text : List.of(TWO, TWO + "h0 1;p7;", STEP, "p1;")) {
            NeedleHands x = readAnew(text);
            for (int what = 0; what <= 5; what++) {
                is("now " + what, x.now(what), 0);
            }
            is("told", x.count(2), 0);
            is("to be undone", x.count(3), 0);
            is("undo", x.undo(), STATE);
            is("forget", x.forget(), 0);
            is("six may be told", x.tells(0, 0), 1);
            x.makes(4);
            is("one is made", x.now(0), 1);
            is("one may be undone", x.count(3), 1);
            is("and no more", x.undo(), 0);
        }
        NeedleHands none = Check.told(TWO);
        none.makes(0);
        none.tells(0, 0);
        is("an empty text is read anew, too", none.shop(), 0);
        is("nothing made", none.now(0), 0);
        is("nothing told", none.count(2), 0);
        is("nothing to be undone", none.undo(), STATE);
    }

    private static void readAnewImagesGone() {
        Document.says("IMAGES are gone.)");
        NeedleHands x = readAnew(TWO);
        is("image 0", x.back(0), STATE);
        is("image 1", x.back(1), STATE);
        x.makes(4);
        is("one is kept anew", x.keep(1), 1);
        is("0 is gone still", x.back(0), STATE);
        is("1 is there", x.back(1), 1);
        is("the same text again", Check.shop(x, TWO), 2);
        is("1 is gone", x.back(1), STATE);
        x.keep(0);
        is("an empty text", x.shop(), 0);
        is("0 is gone", x.back(0), STATE);
    }

    private static void faultyTextReadsNothing() {
        Document.says("of its FAULT: nothing changes.");
        Shown before = shown(x -> {
            change(x);
            x.keep(0);
            x.tells(0, 2);
        });
        for (String text : List.of("!", "s1 0 1 0;s1", "p1;p", "s3 3 3 3;s3 3 3 3;s3 3 3 3;h0 2;p3;h2 2;")) {
            Shown behind = shown(x -> {
                change(x);
                x.keep(0);
                x.tells(0, 2);
                Check.type(x, text);
                x.shop();
                x.clear();
            });
            behind.isAsIn(before, "'" + text + "'", Set.of());
        }
    }

    private static void countOfEach() {
        Document.says("0 STEPS, 1 PRICE, 2 TOLD, 3 how many may be UNDONE, 4 bytes of THE TEXT. BAD.");
        NeedleHands x = Check.told(STEP.repeat(5) + "p99;");
        for (int n = 0; n < 12; n++) {
            x.tells(1, 1);
            x.skill(0, n % 10);
        }
        Check.type(x, " ".repeat(151));
        int[] full = {5, 99, 6, 10, 150};
        NeedleHands y = Check.told("p0;");
        int[] empty = {0, 0, 0, 0, 0};
        for (int what = 0; what <= 4; what++) {
            is("full " + what, x.count(what), full[what]);
            is("empty " + what, y.count(what), empty[what]);
        }
        is("5", x.count(5), BAD);
        is("-1", x.count(-1), BAD);
        is("far beyond", x.count(Integer.MAX_VALUE), BAD);
        is("far below", x.count(Integer.MIN_VALUE), BAD);
    }
}

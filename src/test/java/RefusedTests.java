import java.util.ArrayList;
import java.util.EnumSet;
import java.util.List;
import java.util.Set;
import java.util.function.IntConsumer;
import java.util.function.Supplier;
import java.util.function.ToLongFunction;

/**
 * What is refused is refused by the right number, and all that other calls show is as it was ahead of it; what
 * is asked changes nothing, and what is done changes nothing but what it is for.
 */
public final class RefusedTests {
    private static final int BAD = -1;
    private static final int STATE = -2;
    private static final int FULL = -3;
    private static final int NONE = -9;
    private static final int NO = -1000000;
    private static final String FIVE = "s10 5 14 2;s20 4 6 0;s30 3 5 9;s4 2 3 5;s50 1 1 1;h1 2;h0 4;p7;";

    private record Call(String name, ToLongFunction<NeedleHands> call) {
    }

    private RefusedTests() {
    }

    public static void main(String[] args) {
        badOfOneNumber();
        badOfSteps();
        badOfNoSteps();
        stateChangesNothing();
        fullChangesNothing();
        faultChangesNothing();
        badAheadOfOthers();
        noneChangesNothing();
        questionsChangeNothing();
        changesOfTheirOwnAlone();
        Check.end("RefusedTests");
    }

    /** Something of everything: done, undone, told, kept, marked, and a text that is typed but not read. */
    private static NeedleHands busy() {
        NeedleHands x = Check.told(FIVE);
        x.looks(0, 1);
        x.makes(0);
        x.moves(4);
        x.keep(0);
        x.makes(4);
        x.skill(2, 9);
        x.tells(0, 2);
        x.tells(4, 0);
        x.looks(3, 1);
        x.makes(9);
        x.makes(77);
        x.keep(1);
        x.mark(3, 1);
        for (int z = 100; z < 106; z++) {
            x.makes(z);
        }
        x.undo();
        x.skill(4, 0);
        Check.type(x, "s7 6 5 4;s3 2 1 0;h0 1;p8;");
        return x;
    }

    private static NeedleHands full() {
        NeedleHands x = busy();
        for (int n = 2; n < 6; n++) {
            x.tells(n, 1);
        }
        Check.type(x, " ".repeat(124));
        Document.is("the text is full", x.count(4), 150);
        Document.is("all was told", x.count(2), 6);
        return x;
    }

    /** Nothing done, kept or told. */
    private static NeedleHands idle() {
        return Check.told(FIVE);
    }

    private static NeedleHands faulty() {
        NeedleHands x = busy();
        Check.type(x, "s9 9 9 9;h1 2;p9;");
        return x;
    }

    private static void refused(Supplier<NeedleHands> world, List<Call> calls, long due) {
        Shown before = new Shown(world);
        for (Call call : calls) {
            Document.is(call.name(), call.call().applyAsLong(world.get()), due);
            Shown behind = new Shown(() -> {
                NeedleHands x = world.get();
                call.call().applyAsLong(x);
                return x;
            });
            behind.isAsIn(before, call.name(), Set.of());
        }
    }

    private static Call call(String name, ToLongFunction<NeedleHands> call) {
        return new Call(name, call);
    }

    private static void outside(int least, int most, IntConsumer each) {
        for (int wrong : new int[] {least - 1, most + 1, Integer.MIN_VALUE, Integer.MAX_VALUE}) {
            each.accept(wrong);
        }
    }

    private static void badOfOneNumber() {
        Document.says("Refused, and nothing changes, the first of these: BAD (a number is not as told,");
        List<Call> calls = new ArrayList<>();
        outside(0, 255, w -> calls.add(call("type " + w, x -> x.type(w))));
        outside(0, 7, w -> calls.add(call("step what " + w, x -> x.step(0, w))));
        outside(0, 9999, w -> calls.add(call("makes " + w, x -> x.makes(w))));
        outside(0, 1, w -> calls.add(call("looks is " + w, x -> x.looks(0, w))));
        outside(0, 9, w -> calls.add(call("skill f " + w, x -> x.skill(0, w))));
        outside(0, 5, w -> calls.add(call("now " + w, x -> x.now(w))));
        outside(0, 3, w -> calls.add(call("mean which " + w, x -> x.mean(w, 0))));
        outside(0, 1, w -> calls.add(call("mean what " + w, x -> x.mean(0, w))));
        outside(0, 1, w -> calls.add(call("lost what " + w, x -> x.lost(0, w))));
        outside(1, 99, w -> calls.add(call("paper of " + w, x -> x.paper(w, 0))));
        outside(0, 1, w -> calls.add(call("paper what " + w, x -> x.paper(1, w))));
        outside(0, 250, w -> calls.add(call("few " + w, x -> x.few(w))));
        outside(0, 1, w -> calls.add(call("blame what " + w, x -> x.blame(0, 0, w))));
        outside(0, 9999, w -> calls.add(call("tells " + w, x -> x.tells(w, 0))));
        outside(0, 2, w -> calls.add(call("tells how " + w, x -> x.tells(0, w))));
        outside(0, 2, w -> calls.add(call("who " + w, x -> x.who(w))));
        outside(0, 1, w -> calls.add(call("keep " + w, x -> x.keep(w))));
        outside(0, 1, w -> calls.add(call("back " + w, x -> x.back(w))));
        outside(0, 4, w -> calls.add(call("count " + w, x -> x.count(w))));
        refused(RefusedTests::busy, calls, BAD);
        List<Call> marks = new ArrayList<>();
        outside(0, 5, w -> marks.add(call("mark kind " + w, x -> x.mark(w, 0))));
        refused(RefusedTests::busy, marks, NO);
    }

    private static void badOfSteps() {
        Document.says("or there is no such thing),");
        List<Call> calls = callsOfSteps(5);
        refused(RefusedTests::busy, calls, BAD);
        List<Call> marks = new ArrayList<>();
        outside(0, 4, w -> marks.add(call("mark of " + w, x -> x.mark(0, w))));
        outside(0, 4, w -> marks.add(call("true of " + w, x -> x.mark(3, w))));
        refused(RefusedTests::busy, marks, NO);
    }

    /** Every call that takes a step or a place, with one that is not there. */
    private static List<Call> callsOfSteps(int steps) {
        List<Call> calls = new ArrayList<>();
        int most = steps - 1;
        outside(0, most, w -> calls.add(call("step " + w, x -> x.step(w, 0))));
        outside(0, most, w -> calls.add(call("line " + w, x -> x.line(w))));
        outside(0, most, w -> calls.add(call("looks behind " + w, x -> x.looks(w, 1))));
        outside(0, most, w -> calls.add(call("skill of " + w, x -> x.skill(w, 5))));
        outside(1, most, w -> calls.add(call("moves " + w, x -> x.moves(w))));
        outside(0, most, w -> calls.add(call("lost " + w, x -> x.lost(w, 0))));
        outside(0, most, w -> calls.add(call("bestOrder " + w, x -> x.bestOrder(w))));
        outside(0, most, w -> calls.add(call("blame i " + w, x -> x.blame(w, 0, 0))));
        outside(0, most, w -> calls.add(call("blame k " + w, x -> x.blame(0, w, 0))));
        outside(0, most, w -> calls.add(call("first " + w, x -> x.first(w))));
        return calls;
    }

    private static void badOfNoSteps() {
        Document.says("As told; no STEPS.");
        refused(NeedleHands::new, callsOfSteps(0), BAD);
        refused(NeedleHands::new, List.of(call("moves 0", x -> x.moves(0)), call("moves 1", x -> x.moves(1)),
                call("looks 0 0", x -> x.looks(0, 0))), BAD);
        refused(() -> Check.told("s1 1 1 1;"), callsOfSteps(1), BAD);
    }

    private static void stateChangesNothing() {
        Document.says("STATE (as told),");
        refused(RefusedTests::idle, List.of(call("undo", NeedleHands::undo), call("back 0", x -> x.back(0)),
                call("back 1", x -> x.back(1)), call("looks 0 0", x -> x.looks(0, 0)),
                call("looks 4 0", x -> x.looks(4, 0)), call("moves 2", x -> x.moves(2))), STATE);
        refused(NeedleHands::new, List.of(call("undo", NeedleHands::undo), call("back 0", x -> x.back(0)),
                call("back 1", x -> x.back(1))), STATE);
        refused(RefusedTests::busy, List.of(call("looks 0 1", x -> x.looks(0, 1)),
                call("looks 3 1", x -> x.looks(3, 1)), call("looks 1 0", x -> x.looks(1, 0)),
                call("moves 2", x -> x.moves(2))), STATE);
    }

    private static void fullChangesNothing() {
        Document.says("STATE (as told), FULL.");
        refused(RefusedTests::full, List.of(call("type 0", x -> x.type(0)), call("type 255", x -> x.type(255)),
                call("type ;", x -> x.type(';')), call("tells 0 0", x -> x.tells(0, 0)),
                call("tells 9999 2", x -> x.tells(9999, 2))), FULL);
    }

    private static void faultChangesNothing() {
        Document.says("-10 less the place of its FAULT: nothing changes.");
        // Behind 26 bytes that can be read come a step and a two, and then the second price.
        refused(RefusedTests::faulty, List.of(call("shop", NeedleHands::shop)), -10 - 26 - 9 - 5);
        refused(() -> {
            NeedleHands x = idle();
            Check.type(x, "p9;s9 9 9 9");
            return x;
        }, List.of(call("shop of what ends too early", NeedleHands::shop)), -21);
        refused(() -> {
            NeedleHands x = full();
            x.clear();
            Check.type(x, " ".repeat(149) + "s");
            return x;
        }, List.of(call("shop of a full text", NeedleHands::shop)), -160);
    }

    private static void badAheadOfOthers() {
        Document.says("the first of these: BAD (a number is not as told, or there is no such thing), STATE (as told), FULL.");
        refused(RefusedTests::full, List.of(call("type 256", x -> x.type(256)), call("type -1", x -> x.type(-1)),
                call("tells 10000 0", x -> x.tells(10000, 0)), call("tells 0 3", x -> x.tells(0, 3)),
                call("tells -1 -1", x -> x.tells(-1, -1)), call("looks 5 0", x -> x.looks(5, 0)),
                call("looks 0 2", x -> x.looks(0, 2)), call("back 2", x -> x.back(2))), BAD);
        refused(RefusedTests::idle, List.of(call("back 2", x -> x.back(2)), call("back -1", x -> x.back(-1)),
                call("looks -1 0", x -> x.looks(-1, 0)), call("blame of what is not looked behind", x -> x.blame(0, 0, 2)),
                call("blame k 5 of what is not looked behind", x -> x.blame(0, 5, 0))), BAD);
    }

    private static void noneChangesNothing() {
        Document.says("NONE (none can be found there, it is not LOOKED behind).");
        refused(RefusedTests::idle, List.of(call("blame", x -> x.blame(4, 0, 0)), call("first", x -> x.first(4)),
                call("few", x -> x.few(0))), NONE);
        refused(() -> {
            NeedleHands x = busy();
            x.tells(4, 2);
            return x;
        }, List.of(call("who the least", x -> x.who(1)), call("who in all", x -> x.who(2))), NONE);
    }

    private static List<Call> questions() {
        List<Call> calls = new ArrayList<>();
        calls.add(call("bestLooks", NeedleHands::bestLooks));
        calls.add(call("trace", NeedleHands::trace));
        for (int i = 0; i < 5; i++) {
            int n = i;
            calls.add(call("bestOrder " + n, x -> x.bestOrder(n)));
            calls.add(call("line " + n, x -> x.line(n)));
            calls.add(call("first " + n, x -> x.first(n)));
            calls.add(call("lost " + n, x -> x.lost(n, 0)));
            calls.add(call("blame 3 " + n, x -> x.blame(3, n, 1)));
            calls.add(call("step " + n, x -> x.step(n, n + 3)));
            calls.add(call("now " + n, x -> x.now(n)));
            calls.add(call("mean " + n % 4, x -> x.mean(n % 4, 1)));
            calls.add(call("paper " + n, x -> x.paper(n + 95, 0)));
            calls.add(call("few " + n, x -> x.few(60 * n)));
            calls.add(call("who " + n % 3, x -> x.who(n % 3)));
            calls.add(call("count " + n, x -> x.count(n)));
        }
        return calls;
    }

    private static void questionsChangeNothing() {
        Document.says("(Nothing is changed;");
        for (Supplier<NeedleHands> world : List.<Supplier<NeedleHands>>of(RefusedTests::busy, RefusedTests::full)) {
            Shown before = new Shown(world);
            for (Call call : questions()) {
                Shown behind = new Shown(() -> {
                    NeedleHands x = world.get();
                    call.call().applyAsLong(x);
                    return x;
                });
                behind.isAsIn(before, call.name(), Set.of());
            }
        }
    }

    private static void changes(Supplier<NeedleHands> world, Call call, Set<Shown.Part> parts, Set<Shown.Part> unseen) {
        Shown before = new Shown(world);
        Shown behind = new Shown(() -> {
            NeedleHands x = world.get();
            Document.holds(call.name() + " is taken", call.call().applyAsLong(x) >= 0);
            return x;
        });
        behind.isOtherThan(before, call.name(), parts);
        Set<Shown.Part> mayChange = EnumSet.noneOf(Shown.Part.class);
        mayChange.addAll(parts);
        mayChange.addAll(unseen);
        behind.isAsIn(before, call.name(), mayChange);
    }

    /** STANDS shows how many bytes and tales there are too, and TOLD is seen through the faults and the line. */
    private static void changesOfTheirOwnAlone() {
        Document.says("IMAGES 0, 1 keep NOW");
        Set<Shown.Part> text = EnumSet.of(Shown.Part.STANDS, Shown.Part.TEXT);
        Set<Shown.Part> told = EnumSet.of(Shown.Part.STANDS, Shown.Part.TOLD);
        Set<Shown.Part> done = EnumSet.of(Shown.Part.STANDS, Shown.Part.PAST);
        Set<Shown.Part> seenThrough = EnumSet.of(Shown.Part.TOLD);
        changes(RefusedTests::busy, call("type", x -> x.type('!')), text, Set.of());
        changes(RefusedTests::busy, call("clear", NeedleHands::clear), text, Set.of());
        changes(RefusedTests::busy, call("tells", x -> x.tells(9, 2)), told, Set.of());
        changes(RefusedTests::busy, call("forget", NeedleHands::forget), told, Set.of());
        changes(RefusedTests::busy, call("mark", x -> x.mark(0, 0)), EnumSet.of(Shown.Part.TRACE), Set.of());
        changes(RefusedTests::busy, call("keep 0", x -> x.keep(0)), EnumSet.of(Shown.Part.IMAGE_0), Set.of());
        changes(RefusedTests::busy, call("keep 1", x -> x.keep(1)), EnumSet.of(Shown.Part.IMAGE_1), Set.of());
        changes(RefusedTests::busy, call("back 0", x -> x.back(0)), done, seenThrough);
        changes(RefusedTests::busy, call("back 1", x -> x.back(1)), done, seenThrough);
        changes(RefusedTests::busy, call("undo", NeedleHands::undo), done, seenThrough);
        changes(RefusedTests::busy, call("makes", x -> x.makes(9999)), done, Set.of());
        changes(RefusedTests::busy, call("looks", x -> x.looks(1, 1)), done, Set.of());
        changes(RefusedTests::busy, call("skill", x -> x.skill(1, 8)), done, seenThrough);
        changes(RefusedTests::busy, call("moves", x -> x.moves(1)), done, seenThrough);
    }
}

import java.util.ArrayList;
import java.util.EnumMap;
import java.util.EnumSet;
import java.util.List;
import java.util.Map;
import java.util.Set;
import java.util.function.Consumer;
import java.util.function.Supplier;

/**
 * All that calls show of an object. Some of it shows only by calls that change the object, so each part is
 * read from an object of its own, made by the same calls; with those, each stays within 512 calls.
 */
final class Shown {
    enum Part { STANDS, PAST, IMAGE_0, IMAGE_1, TEXT, TOLD, TRACE }

    private static final int[] PAPERS = {1, 25, 99};
    private static final int[] FEWS = {0, 10, 50, 100, 200, 249, 250};

    private final Map<Part, List<String>> rows = new EnumMap<>(Part.class);

    Shown(Supplier<NeedleHands> making) {
        read(Part.STANDS, making, Shown::readStands);
        read(Part.PAST, making, Shown::readPast);
        read(Part.IMAGE_0, making, reader -> readImage(reader, 0));
        read(Part.IMAGE_1, making, reader -> readImage(reader, 1));
        read(Part.TEXT, making, Shown::readText);
        read(Part.TOLD, making, Shown::readTold);
        read(Part.TRACE, making, reader -> reader.add("trace()", reader.x.trace()));
    }

    /** Each part must be the same, but for those that may change. */
    void isAsIn(Shown earlier, String what, Set<Part> mayChange) {
        for (Part part : EnumSet.complementOf(setOf(mayChange))) {
            Document.is(what + " leaves " + part + firstOther(rows.get(part), earlier.rows.get(part)),
                    rows.get(part).equals(earlier.rows.get(part)) ? 1 : 0, 1);
        }
    }

    /** These parts must be other than they were: what shows nothing would hold nothing. */
    void isOtherThan(Shown earlier, String what, Set<Part> parts) {
        for (Part part : parts) {
            Document.holds(what + " changes " + part, !rows.get(part).equals(earlier.rows.get(part)));
        }
    }

    /** The line, the faults and all that is counted, as they are now. */
    static List<String> moment(NeedleHands x) {
        Reader reader = new Reader(x);
        readMoment(reader);
        return reader.row;
    }

    private static EnumSet<Part> setOf(Set<Part> parts) {
        EnumSet<Part> set = EnumSet.noneOf(Part.class);
        set.addAll(parts);
        return set;
    }

    private static String firstOther(List<String> got, List<String> due) {
        for (int i = 0; i < got.size() && i < due.size(); i++) {
            if (!got.get(i).equals(due.get(i))) {
                return ": " + got.get(i) + ", it was " + due.get(i);
            }
        }
        return "";
    }

    private void read(Part part, Supplier<NeedleHands> making, Consumer<Reader> reading) {
        Reader reader = new Reader(making.get());
        reading.accept(reader);
        Check.holds("a part is read by few calls", reader.row.size() <= 330);
        rows.put(part, reader.row);
    }

    private static void readStands(Reader reader) {
        NeedleHands x = reader.x;
        readPlan(reader);
        readMoment(reader);
        reader.add("bestLooks()", x.bestLooks());
        for (int v : FEWS) {
            reader.add("few(" + v + ")", x.few(v));
        }
        for (int what = 0; what <= 1; what++) {
            for (int which = 0; which <= 3; which++) {
                reader.add("mean(" + which + ", " + what + ")", x.mean(which, what));
            }
            for (int n : PAPERS) {
                reader.add("paper(" + n + ", " + what + ")", x.paper(n, what));
            }
        }
        for (int i = 0; i < 5; i++) {
            readPlace(reader, i);
        }
        for (int what = 0; what <= 4; what++) {
            reader.add("count(" + what + ")", x.count(what));
        }
    }

    private static void readPlace(Reader reader, int i) {
        NeedleHands x = reader.x;
        reader.add("bestOrder(" + i + ")", x.bestOrder(i));
        reader.add("first(" + i + ")", x.first(i));
        for (int what = 0; what <= 1; what++) {
            reader.add("lost(" + i + ", " + what + ")", x.lost(i, what));
            for (int k = 0; k < 5; k++) {
                reader.add("blame(" + i + ", " + k + ", " + what + ")", x.blame(i, k, what));
            }
        }
        for (int kind = 0; kind <= 5; kind++) {
            reader.add("mark(" + kind + ", " + i + ")", x.mark(kind, i));
        }
    }

    private static void readPlan(Reader reader) {
        reader.add("count(0)", reader.x.count(0));
        reader.add("count(1)", reader.x.count(1));
        for (int s = 0; s < 5; s++) {
            for (int what : new int[] {0, 2, 3, 7}) {
                reader.add("step(" + s + ", " + what + ")", reader.x.step(s, what));
            }
        }
    }

    private static void readMoment(Reader reader) {
        for (int s = 0; s < 5; s++) {
            reader.add("line(" + s + ")", reader.x.line(s));
            reader.add("step(" + s + ", 1)", reader.x.step(s, 1));
            reader.add("step(" + s + ", 5)", reader.x.step(s, 5));
        }
        for (int what = 0; what <= 5; what++) {
            reader.add("now(" + what + ")", reader.x.now(what));
        }
    }

    private static void readPast(Reader reader) {
        reader.add("count(3)", reader.x.count(3));
        for (int turn = 0; turn < 11; turn++) {
            int more = reader.x.undo();
            reader.add("undo()", more);
            if (more < 0) {
                return;
            }
            readMoment(reader);
        }
    }

    private static void readImage(Reader reader, int image) {
        reader.add("back(" + image + ")", reader.x.back(image));
        readMoment(reader);
        readPast(reader);
    }

    private static void readText(Reader reader) {
        reader.add("count(4)", reader.x.count(4));
        reader.add("shop()", reader.x.shop());
        readPlan(reader);
        reader.add("clear()", reader.x.clear());
    }

    /** What was told shows by who explains it, with the hands as they are and with better and worse ones. */
    private static void readTold(Reader reader) {
        readWho(reader);
        for (int s = 0; s < 5; s++) {
            for (int f = 0; f <= 9; f += 3) {
                reader.x.skill(s, f);
                readWho(reader);
            }
        }
        reader.add("forget()", reader.x.forget());
    }

    private static void readWho(Reader reader) {
        for (int what = 0; what <= 2; what++) {
            reader.add("who(" + what + ")", reader.x.who(what));
        }
    }

    private static final class Reader {
        final NeedleHands x;
        final List<String> row = new ArrayList<>();

        Reader(NeedleHands x) {
            this.x = x;
        }

        void add(String call, long answer) {
            row.add(call + " = " + answer);
        }
    }
}

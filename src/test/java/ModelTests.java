import java.util.Random;

/** Runs of calls by fixed seeds, each answer held against the model's. */
public final class ModelTests {
    private static final int RUNS = 900;
    private static final int CALLS = 512;
    private static final int[] ODD = {-1, -2, -9, 5, 6, 8, 9, 10, 31, 32, 64, 99, 100, 150, 250, 251, 255, 256,
        9999, 10000, Integer.MAX_VALUE, Integer.MIN_VALUE};

    private final Random random;
    private final int run;
    private final NeedleHands x = new NeedleHands();
    private final Model m = new Model();
    private int calls;

    private ModelTests(int run) {
        this.run = run;
        this.random = new Random(run);
    }

    public static void main(String[] args) {
        for (int run = 0; run < RUNS && !Check.anyFailed(); run++) {
            new ModelTests(run).go();
        }
        Check.end("ModelTests");
    }

    private void is(String call, long got, long due) {
        Check.is("run " + run + ", call " + calls + ": " + call, got, due);
        calls++;
    }

    private void go() {
        tell();
        while (calls < CALLS && !Check.anyFailed()) {
            int roll = random.nextInt(100);
            if (roll == 0 && calls < CALLS - 160) {
                tell();
            } else if (roll < 45) {
                act();
            } else {
                ask();
            }
        }
    }

    private int below(int bound) {
        return random.nextInt(bound);
    }

    /** Mostly 0 to most, now and then a number that is seldom one of those. */
    private int near(int most) {
        int roll = below(40);
        if (roll == 0) {
            return ODD[below(ODD.length)];
        }
        return roll == 1 ? most + 1 : below(most + 1);
    }

    private void tell() {
        String text = text();
        if (below(4) == 0) {
            text = spoil(text);
        }
        for (int i = 0; i < text.length() && i < 160; i++) {
            char c = text.charAt(i);
            is("type(" + (int) c + ")", x.type(c), m.type(c));
        }
        is("shop() of '" + text + "'", x.shop(), m.shop());
        if (m.count(4) > 0) {
            is("clear()", x.clear(), m.clear());
        }
    }

    private String text() {
        StringBuilder text = new StringBuilder();
        int steps = below(12) == 0 ? below(7) : 2 + below(4);
        boolean faultless = below(8) == 0;
        int price = below(4);
        for (int s = 0; s < steps; s++) {
            if (s == price) {
                text.append("p").append(below(100)).append(';');
            }
            text.append(blank()).append('s').append(blank()).append(1 + below(99)).append(' ');
            text.append(faultless ? below(2) : below(10)).append(' ');
            text.append(1 + below(30)).append(' ').append(blank()).append(below(3) == 0 ? 0 : below(10));
            text.append(blank()).append(';');
            if (s > 0 && below(3) == 0) {
                text.append('h').append(below(s)).append(' ').append(s).append(';');
            }
        }
        return text.toString();
    }

    private String blank() {
        return below(6) == 0 ? " " : "";
    }

    private String spoil(String text) {
        String signs = "shpx; 0123456789,A\t" + (char) 0 + (char) 200;
        StringBuilder spoilt = new StringBuilder(text);
        for (int n = 1 + below(3); n > 0; n--) {
            int at = below(spoilt.length() + 1);
            char sign = signs.charAt(below(signs.length()));
            int how = below(3);
            if (how == 0 || at == spoilt.length()) {
                spoilt.insert(at, sign);
            } else if (how == 1) {
                spoilt.setCharAt(at, sign);
            } else {
                spoilt.deleteCharAt(at);
            }
        }
        return below(5) == 0 ? spoilt.substring(0, below(spoilt.length() + 1)) : spoilt.toString();
    }

    private void act() {
        int a = near(4);
        int b = near(1);
        int f = near(9);
        int z = below(30) == 0 ? near(9999) : below(10000);
        switch (below(12)) {
            case 0: case 1: case 2: is("makes(" + z + ")", x.makes(z), m.makes(z)); break;
            case 3: case 4: is("looks(" + a + ", " + b + ")", x.looks(a, b), m.looks(a, b)); break;
            case 5: is("skill(" + a + ", " + f + ")", x.skill(a, f), m.skill(a, f)); break;
            case 6: case 7: is("moves(" + a + ")", x.moves(a), m.moves(a)); break;
            case 8: is("undo()", x.undo(), m.undo()); break;
            case 9: is("keep(" + b + ")", x.keep(b), m.keep(b)); break;
            case 10: is("back(" + b + ")", x.back(b), m.back(b)); break;
            default: tellOfNeedle(z);
        }
    }

    /** A fate that some set of looks explains, but for a few. */
    private void tellOfNeedle(int z) {
        int how = near(2);
        is("tells(" + z + ", " + how + ")", x.tells(z, how), m.tells(z, how));
        if (m.who(0) <= 0 && below(3) > 0 || below(10) == 0) {
            is("forget()", x.forget(), m.forget());
        }
    }

    private void ask() {
        int a = near(4);
        int k = near(4);
        int b = near(1);
        switch (below(17)) {
            case 0: { int w = near(7); is("step(" + a + ", " + w + ")", x.step(a, w), m.step(a, w)); break; }
            case 1: is("line(" + a + ")", x.line(a), m.line(a)); break;
            case 2: { int w = near(5); is("now(" + w + ")", x.now(w), m.now(w)); break; }
            case 3: { int w = near(3); is("mean(" + w + ", " + b + ")", x.mean(w, b), m.mean(w, b)); break; }
            case 4: is("lost(" + a + ", " + b + ")", x.lost(a, b), m.lost(a, b)); break;
            case 5: { int n = near(99); is("paper(" + n + ", " + b + ")", x.paper(n, b), m.paper(n, b)); break; }
            case 6: if (below(4) == 0) { is("bestLooks()", x.bestLooks(), m.bestLooks()); } break;
            case 7: if (below(8) == 0) { is("bestOrder(" + a + ")", x.bestOrder(a), m.bestOrder(a)); } break;
            case 8: { int v = near(250); is("few(" + v + ")", x.few(v), m.few(v)); break; }
            case 9: case 10: is("blame(" + a + ", " + k + ", " + b + ")", x.blame(a, k, b), m.blame(a, k, b)); break;
            case 11: is("first(" + a + ")", x.first(a), m.first(a)); break;
            case 12: { int w = near(2); is("who(" + w + ")", x.who(w), m.who(w)); break; }
            case 13: { int w = near(5); is("mark(" + w + ", " + a + ")", x.mark(w, a), m.mark(w, a)); break; }
            case 14: { int w = near(4); is("count(" + w + ")", x.count(w), m.count(w)); break; }
            case 15: is("trace()", x.trace(), m.trace()); break;
            default: { int c = near(255); is("type(" + c + ")", x.type(c), m.type(c));
                if (below(2) == 0) { is("clear()", x.clear(), m.clear()); } }
        }
    }
}

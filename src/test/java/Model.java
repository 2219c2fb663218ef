import java.math.BigInteger;
import java.nio.charset.StandardCharsets;
import java.util.ArrayDeque;
import java.util.ArrayList;
import java.util.Deque;
import java.util.List;
import java.util.regex.Matcher;
import java.util.regex.Pattern;

/**
 * The document once more, slowly and by other means than the class: texts by patterns, means as sums
 * over every way that a needle may go, states that are never changed but copied.
 */
final class Model {
    static final int BAD = -1, STATE = -2, FULL = -3, NONE = -9, NO = -1000000;

    record Step(int seconds, int fault, int look, int miss) { }

    record Ahead(int one, int other) { }

    record Shop(List<Step> steps, List<Ahead> aheads, int price) { }

    record State(List<Integer> line, List<Integer> faults, List<Integer> looked, List<Integer> thrown,
            int made, int sold, int dudsSold, int cost) { }

    record Image(State state, List<State> earlier) { }

    record Told(int z, int how) { }

    /** One way of a needle through the line: its odds, who made it a dud, who threw it (-1: nobody). */
    record Way(Ratio odds, int madeBy, int thrownAt, int seconds) { }

    record Token(String text, int place) { }

    private String text = "";
    private Shop shop = new Shop(List.of(), List.of(), 50);
    private State state = fresh(shop);
    private Deque<State> earlier = new ArrayDeque<>();
    private final Image[] images = new Image[2];
    private final List<Told> told = new ArrayList<>();
    private long trace;

    private static State fresh(Shop shop) {
        List<Integer> line = new ArrayList<>();
        List<Integer> faults = new ArrayList<>();
        List<Integer> zeros = new ArrayList<>();
        for (int s = 0; s < shop.steps.size(); s++) {
            line.add(s);
            faults.add(shop.steps.get(s).fault);
            zeros.add(0);
        }
        return new State(line, faults, zeros, zeros, 0, 0, 0, 0);
    }

    private int size() {
        return shop.steps.size();
    }

    private boolean within(int number, int least, int most) {
        return number >= least && number <= most;
    }

    private boolean isStep(int s) {
        return within(s, 0, size() - 1);
    }

    private void change(State next) {
        earlier.addLast(state);
        if (earlier.size() > 10) {
            earlier.removeFirst();
        }
        state = next;
    }

    private static List<Integer> with(List<Integer> row, int at, int value) {
        List<Integer> copy = new ArrayList<>(row);
        copy.set(at, value);
        return copy;
    }

    private List<Integer> setOf(int bits) {
        List<Integer> set = new ArrayList<>();
        for (int s = 0; s < size(); s++) {
            set.add((bits / (1 << s)) % 2);
        }
        return set;
    }

    private static int bitsOf(List<Integer> set) {
        int bits = 0;
        for (int s = 0; s < set.size(); s++) {
            bits += set.get(s) << s;
        }
        return bits;
    }

    private static int sum(List<Integer> row) {
        return row.stream().mapToInt(Integer::intValue).sum();
    }

    // ---- the shop

    int type(int c) {
        if (!within(c, 0, 255)) {
            return BAD;
        }
        if (text.length() == 150) {
            return FULL;
        }
        text += new String(new byte[] {(byte) c}, StandardCharsets.ISO_8859_1);
        return text.length();
    }

    int clear() {
        int had = text.length();
        text = "";
        return had;
    }

    private static final class Fault extends Exception {
        private static final long serialVersionUID = 1L;
        final int place;

        Fault(int place) {
            this.place = place;
        }
    }

    private List<Token> tokens() {
        List<Token> tokens = new ArrayList<>();
        Matcher matcher = Pattern.compile("[a-z]+|[0-9]+|[^ ]", Pattern.DOTALL).matcher(text);
        while (matcher.find()) {
            tokens.add(new Token(matcher.group(), matcher.start()));
        }
        return tokens;
    }

    private Token next(Deque<Token> tokens) throws Fault {
        if (tokens.isEmpty()) {
            throw new Fault(text.length());
        }
        return tokens.removeFirst();
    }

    private int number(Deque<Token> tokens, int least, int most) throws Fault {
        Token token = next(tokens);
        if (!token.text.matches("0|[1-9][0-9]?") || !within(Integer.parseInt(token.text), least, most)) {
            throw new Fault(token.place);
        }
        return Integer.parseInt(token.text);
    }

    int shop() {
        Deque<Token> tokens = new ArrayDeque<>(tokens());
        List<Step> steps = new ArrayList<>();
        List<Ahead> aheads = new ArrayList<>();
        List<Integer> prices = new ArrayList<>();
        try {
            while (!tokens.isEmpty()) {
                Token token = next(tokens);
                if (token.text.equals("s") && steps.size() < 5) {
                    steps.add(new Step(number(tokens, 1, 99), number(tokens, 0, 9), number(tokens, 1, 30),
                            number(tokens, 0, 9)));
                } else if (token.text.equals("h")) {
                    int one = number(tokens, 0, steps.size() - 1);
                    aheads.add(new Ahead(one, number(tokens, one + 1, steps.size() - 1)));
                } else if (token.text.equals("p") && prices.isEmpty()) {
                    prices.add(number(tokens, 0, 99));
                } else {
                    throw new Fault(token.place);
                }
                Token end = next(tokens);
                if (!end.text.equals(";")) {
                    throw new Fault(end.place);
                }
            }
        } catch (Fault fault) {
            return -10 - fault.place;
        }
        shop = new Shop(steps, aheads, prices.isEmpty() ? 50 : prices.get(0));
        state = fresh(shop);
        earlier.clear();
        told.clear();
        images[0] = null;
        images[1] = null;
        text = "";
        return steps.size() + aheads.size() + prices.size();
    }

    int step(int s, int what) {
        if (!isStep(s) || !within(what, 0, 7)) {
            return BAD;
        }
        Step step = shop.steps.get(s);
        int ahead = 0;
        for (Ahead a : shop.aheads) {
            ahead |= a.one == s ? 1 << a.other : 0;
        }
        return new int[] {step.seconds, state.faults.get(s), step.look, step.miss, state.looked.get(s),
            state.thrown.get(s), state.line.indexOf(s), ahead}[what];
    }

    int line(int i) {
        return isStep(i) ? state.line.get(i) : BAD;
    }

    // ---- what is done

    private static int draw(int z, int number) {
        BigInteger q = BigInteger.valueOf(7919).multiply(BigInteger.valueOf(z))
                .add(BigInteger.valueOf(6151).multiply(BigInteger.valueOf(number))).add(BigInteger.ONE);
        return q.modPow(BigInteger.TWO, BigInteger.valueOf(65521)).intValueExact() / 8 % 10;
    }

    /** Whether it is a dud, the step that threw it or -1, and its seconds. */
    private int[] way(int z, List<Integer> looked) {
        boolean dud = false;
        int seconds = 0;
        for (int s : state.line) {
            Step step = shop.steps.get(s);
            seconds += step.seconds;
            if (!dud) {
                dud = draw(z, s) < state.faults.get(s);
            }
            seconds += looked.get(s) * step.look;
            if (dud && looked.get(s) == 1 && !(draw(z, s + 5) < step.miss)) {
                return new int[] {1, s, seconds};
            }
        }
        return new int[] {dud ? 1 : 0, -1, seconds};
    }

    private static int fate(int[] way) {
        return way[1] >= 0 ? 2 : way[0];
    }

    int makes(int z) {
        if (!within(z, 0, 9999)) {
            return BAD;
        }
        if (state.made == 9999) {
            return STATE;
        }
        int[] way = way(z, state.looked);
        int fate = fate(way);
        List<Integer> thrown = fate == 2 ? with(state.thrown, way[1], state.thrown.get(way[1]) + 1) : state.thrown;
        change(new State(state.line, state.faults, state.looked, thrown, state.made + 1,
                state.sold + (fate == 2 ? 0 : 1), state.dudsSold + (fate == 1 ? 1 : 0),
                state.cost + way[2] + (fate == 1 ? shop.price : 0)));
        return fate;
    }

    int looks(int s, int is) {
        if (!isStep(s) || !within(is, 0, 1)) {
            return BAD;
        }
        if (state.looked.get(s) == is) {
            return STATE;
        }
        change(new State(state.line, state.faults, with(state.looked, s, is), state.thrown, state.made,
                state.sold, state.dudsSold, state.cost));
        return sum(state.looked);
    }

    int skill(int s, int f) {
        if (!isStep(s) || !within(f, 0, 9)) {
            return BAD;
        }
        int was = state.faults.get(s);
        change(new State(state.line, with(state.faults, s, f), state.looked, state.thrown, state.made,
                state.sold, state.dudsSold, state.cost));
        return was;
    }

    int moves(int i) {
        if (!within(i, 1, size() - 1)) {
            return BAD;
        }
        int front = state.line.get(i - 1);
        int behind = state.line.get(i);
        if (shop.aheads.contains(new Ahead(front, behind))) {
            return STATE;
        }
        change(new State(with(with(state.line, i, front), i - 1, behind), state.faults, state.looked,
                state.thrown, state.made, state.sold, state.dudsSold, state.cost));
        return front;
    }

    int undo() {
        if (earlier.isEmpty()) {
            return STATE;
        }
        state = earlier.removeLast();
        return earlier.size();
    }

    int now(int what) {
        if (!within(what, 0, 5)) {
            return BAD;
        }
        return new int[] {state.made, state.sold, state.dudsSold, sum(state.thrown), state.cost,
            bitsOf(state.looked)}[what];
    }

    // ---- means

    private List<Way> ways(List<Integer> line, List<Integer> looked) {
        List<Way> ways = new ArrayList<>();
        follow(ways, line, looked, 0, new Way(Ratio.ONE, -1, -1, 0));
        return ways;
    }

    private void follow(List<Way> ways, List<Integer> line, List<Integer> looked, int at, Way way) {
        if (way.odds.isZero()) {
            return;
        }
        if (at == line.size()) {
            ways.add(way);
            return;
        }
        int s = line.get(at);
        Step step = shop.steps.get(s);
        int seconds = way.seconds + step.seconds + looked.get(s) * step.look;
        if (way.madeBy < 0) {
            Ratio well = way.odds.times(Ratio.of(10 - state.faults.get(s), 10));
            follow(ways, line, looked, at + 1, new Way(well, -1, -1, seconds));
        }
        Ratio dud = way.madeBy < 0 ? way.odds.times(Ratio.of(state.faults.get(s), 10)) : way.odds;
        int madeBy = way.madeBy < 0 ? at : way.madeBy;
        if (looked.get(s) == 0) {
            follow(ways, line, looked, at + 1, new Way(dud, madeBy, -1, seconds));
            return;
        }
        follow(ways, line, looked, at + 1, new Way(dud.times(Ratio.of(step.miss, 10)), madeBy, -1, seconds));
        ways.add(new Way(dud.times(Ratio.of(10 - step.miss, 10)), madeBy, at, seconds));
    }

    private Ratio cost(List<Way> ways) {
        Ratio cost = Ratio.ZERO;
        for (Way way : ways) {
            int price = way.thrownAt < 0 && way.madeBy >= 0 ? shop.price : 0;
            cost = cost.plus(way.odds.times(way.seconds + price));
        }
        return cost;
    }

    private static Ratio sold(List<Way> ways, boolean dud) {
        Ratio odds = Ratio.ZERO;
        for (Way way : ways) {
            odds = way.thrownAt < 0 && way.madeBy >= 0 == dud ? odds.plus(way.odds) : odds;
        }
        return odds;
    }

    long mean(int which, int what) {
        if (!within(which, 0, 3) || !within(what, 0, 1)) {
            return BAD;
        }
        List<Way> ways = ways(state.line, state.looked);
        Ratio good = sold(ways, false);
        switch (which) {
            case 0: return cost(ways).part(what);
            case 1: return good.part(what);
            case 2: return sold(ways, true).part(what);
            default: return good.isZero() ? NONE : cost(ways).by(good).part(what);
        }
    }

    /** The odds of a needle that is thrown behind the i-th step and was made a dud by the k-th (-1: any). */
    private Ratio found(int i, int k) {
        Ratio odds = Ratio.ZERO;
        for (Way way : ways(state.line, state.looked)) {
            odds = way.thrownAt == i && (k < 0 || way.madeBy == k) ? odds.plus(way.odds) : odds;
        }
        return odds;
    }

    long lost(int i, int what) {
        return !isStep(i) || !within(what, 0, 1) ? BAD : found(i, -1).part(what);
    }

    long paper(int n, int what) {
        if (!within(n, 1, 99) || !within(what, 0, 1)) {
            return BAD;
        }
        List<Way> ways = ways(state.line, state.looked);
        Ratio sold = sold(ways, false).plus(sold(ways, true));
        return sold.isZero() ? NONE : sold(ways, true).times(n).by(sold).part(what);
    }

    // ---- how it should be

    int bestLooks() {
        int best = -1;
        Ratio least = null;
        for (int set = (1 << size()) - 1; set >= 0; set--) {
            Ratio cost = cost(ways(state.line, setOf(set)));
            if (least == null || cost.compareTo(least) <= 0) {
                least = cost;
                best = set;
            }
        }
        return best;
    }

    private void orders(List<List<Integer>> all, List<Integer> begun) {
        if (begun.size() == size()) {
            all.add(new ArrayList<>(begun));
            return;
        }
        for (int s = 0; s < size(); s++) {
            if (!begun.contains(s)) {
                begun.add(s);
                orders(all, begun);
                begun.remove(begun.size() - 1);
            }
        }
    }

    int bestOrder(int i) {
        if (!isStep(i)) {
            return BAD;
        }
        List<List<Integer>> all = new ArrayList<>();
        orders(all, new ArrayList<>());
        all.removeIf(o -> shop.aheads.stream().anyMatch(a -> o.indexOf(a.one) > o.indexOf(a.other)));
        List<Integer> best = all.get(0);
        Ratio least = cost(ways(best, state.looked));
        for (List<Integer> order : all) {
            Ratio cost = cost(ways(order, state.looked));
            if (cost.compareTo(least) < 0) {
                least = cost;
                best = order;
            }
        }
        return best.get(i);
    }

    int few(int v) {
        if (!within(v, 0, 250)) {
            return BAD;
        }
        for (int many = 0; many <= size(); many++) {
            for (int set = 0; set < 1 << size(); set++) {
                if (sum(setOf(set)) != many) {
                    continue;
                }
                List<Way> ways = ways(state.line, setOf(set));
                Ratio duds = sold(ways, true);
                Ratio sold = duds.plus(sold(ways, false));
                if (!sold.isZero() && duds.by(sold).times(25).compareTo(Ratio.of(v, 10)) <= 0) {
                    return set;
                }
            }
        }
        return NONE;
    }

    // ---- whose fault

    long blame(int i, int k, int what) {
        if (!isStep(i) || !isStep(k) || !within(what, 0, 1)) {
            return BAD;
        }
        Ratio any = found(i, -1);
        return any.isZero() ? NONE : found(i, k).by(any).part(what);
    }

    int first(int i) {
        if (!isStep(i)) {
            return BAD;
        }
        if (found(i, -1).isZero()) {
            return NONE;
        }
        int best = 0;
        for (int k = 0; k < size(); k++) {
            best = found(i, k).compareTo(found(i, best)) > 0 ? k : best;
        }
        return best;
    }

    int tells(int z, int how) {
        if (!within(z, 0, 9999) || !within(how, 0, 2)) {
            return BAD;
        }
        if (told.size() == 6) {
            return FULL;
        }
        told.add(new Told(z, how));
        return told.size();
    }

    int forget() {
        int had = told.size();
        told.clear();
        return had;
    }

    int who(int what) {
        if (!within(what, 0, 2)) {
            return BAD;
        }
        List<Integer> sets = new ArrayList<>();
        for (int set = 0; set < 1 << size(); set++) {
            List<Integer> looked = setOf(set);
            if (told.stream().allMatch(t -> fate(way(t.z, looked)) == t.how)) {
                sets.add(set);
            }
        }
        if (what == 0) {
            return sets.size();
        }
        return sets.isEmpty() ? NONE : what == 1 ? sets.get(0) : sets.stream().reduce((a, b) -> a & b).get();
    }

    // ---- kinds, images

    int mark(int kind, int s) {
        if (!within(kind, 0, 5) || !isStep(s)) {
            return NO;
        }
        Step step = shop.steps.get(s);
        int point = step.seconds + state.faults.get(s);
        int eye = step.seconds - step.look;
        trace += new int[] {1, 11, 101, 1011, 10101, 100001}[kind];
        return new int[] {step.seconds, point, eye, 2 * point, eye + state.thrown.get(s),
            step.seconds + state.made}[kind];
    }

    int keep(int image) {
        if (!within(image, 0, 1)) {
            return BAD;
        }
        images[image] = new Image(state, List.copyOf(earlier));
        return state.made;
    }

    int back(int image) {
        if (!within(image, 0, 1)) {
            return BAD;
        }
        if (images[image] == null) {
            return STATE;
        }
        state = images[image].state;
        earlier = new ArrayDeque<>(images[image].earlier);
        return state.made;
    }

    int count(int what) {
        if (!within(what, 0, 4)) {
            return BAD;
        }
        return new int[] {size(), shop.price, told.size(), earlier.size(), text.length()}[what];
    }

    long trace() {
        return trace;
    }
}

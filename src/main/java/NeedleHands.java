/**
 * Needles that go through steps, each by a hand: seconds, faults and looks by odds, told by a text;
 * needles made by draws; means, best looks and orders, blame, and images of how it stands.
 */
public final class NeedleHands {
    public static final int BAD = -1, STATE = -2, FULL = -3, NONE = -9;
    public static final int NO = -1000000;

    private static final int MOST_STEPS = 5;
    private static final int MOST_BYTES = 150;
    private static final int MOST_TOLD = 6;
    private static final int MOST_MADE = 9999;
    private static final int MOST_UNDONE = 10;
    private static final int HIGHEST_DRAW = 9999;
    private static final int IMAGES = 2;
    private static final int ORDERS = 120;
    private static final int FIRST_PRICE = 50;
    private static final int NOWHERE = -1;

    private static final int SOLD_GOOD = 0;
    private static final int SOLD_DUD = 1;
    private static final int THROWN = 2;

    /** Ten by ten for each of five steps: a fault's odds and a miss's odds divide it without a rest. */
    private static final long WHOLE = 10000000000L;
    /** Five steps of 99 and 30 seconds and a price of 99 cost 744. */
    private static final long ABOVE_ANY_COST = 1000 * WHOLE;

    private final Text text = new Text();
    private Plan plan = new Plan();
    private Plan draft = new Plan();
    private final Past past = new Past();
    private final Past[] images = {new Past(), new Past()};
    private final boolean[] kept = new boolean[IMAGES];
    private final int[] toldDraw = new int[MOST_TOLD];
    private final int[] toldFate = new int[MOST_TOLD];
    private int told;
    private final Needle needle = new Needle();
    private final Flow flow = new Flow();
    private final int[] order = new int[MOST_STEPS];
    private final int[] leastOrder = new int[MOST_STEPS];
    private long traced;

    public NeedleHands() {
    }

    // ---- the shop

    public int type(int c) {
        if (c < 0 || c > 255) {
            return BAD;
        }
        return text.add(c) ? text.length : FULL;
    }

    public int clear() {
        int had = text.length;
        text.length = 0;
        return had;
    }

    public int shop() {
        draft.empty();
        int items = text.readInto(draft);
        if (items < 0) {
            return -10 - text.start;
        }
        Plan old = plan;
        plan = draft;
        draft = old;
        text.length = 0;
        past.open(plan);
        told = 0;
        for (int image = 0; image < IMAGES; image++) {
            kept[image] = false;
        }
        return items;
    }

    public int step(int s, int what) {
        if (!isStep(s)) {
            return BAD;
        }
        Moment present = past.present;
        switch (what) {
            case 0: return plan.seconds[s];
            case 1: return present.fault[s];
            case 2: return plan.look[s];
            case 3: return plan.miss[s];
            case 4: return present.looked >> s & 1;
            case 5: return present.thrown[s];
            case 6: return present.placeOf(s, plan.steps);
            case 7: return plan.ahead[s];
            default: return BAD;
        }
    }

    public int line(int i) {
        return isStep(i) ? past.present.line[i] : BAD;
    }

    // ---- what is done

    public int makes(int z) {
        if (!isDraw(z)) {
            return BAD;
        }
        Moment present = past.present;
        if (present.made >= MOST_MADE) {
            return STATE;
        }
        past.remember();
        needle.go(plan, present, present.looked, z);
        present.enter(needle, plan.price);
        return needle.fate();
    }

    public int looks(int s, int is) {
        if (!isStep(s) || !isBit(is)) {
            return BAD;
        }
        Moment present = past.present;
        if ((present.looked >> s & 1) == is) {
            return STATE;
        }
        past.remember();
        present.looked ^= 1 << s;
        return Integer.bitCount(present.looked);
    }

    public int skill(int s, int f) {
        if (!isStep(s) || f < 0 || f > 9) {
            return BAD;
        }
        past.remember();
        int was = past.present.fault[s];
        past.present.fault[s] = f;
        return was;
    }

    public int moves(int i) {
        if (i == 0 || !isStep(i)) {
            return BAD;
        }
        int[] line = past.present.line;
        int inFront = line[i - 1];
        if (plan.mustLead(inFront, line[i])) {
            return STATE;
        }
        past.remember();
        line[i - 1] = line[i];
        line[i] = inFront;
        return inFront;
    }

    public int undo() {
        return past.restore() ? past.known : STATE;
    }

    public int now(int what) {
        Moment present = past.present;
        switch (what) {
            case 0: return present.made;
            case 1: return present.sold;
            case 2: return present.dudsSold;
            case 3: return present.made - present.sold;
            case 4: return present.cost;
            case 5: return present.looked;
            default: return BAD;
        }
    }

    // ---- means

    public long mean(int which, int what) {
        if (which < 0 || which > 3 || !isBit(what)) {
            return BAD;
        }
        flowNow();
        switch (which) {
            case 0: return part(flow.cost, WHOLE, what);
            case 1: return part(flow.good, WHOLE, what);
            case 2: return part(flow.dud, WHOLE, what);
            default: return part(flow.cost, flow.good, what);
        }
    }

    public long lost(int i, int what) {
        if (!isStep(i) || !isBit(what)) {
            return BAD;
        }
        flowNow();
        return part(flow.lost[i], WHOLE, what);
    }

    public long paper(int n, int what) {
        if (n < 1 || n > 99 || !isBit(what)) {
            return BAD;
        }
        flowNow();
        return part(flow.dud * n, flow.good + flow.dud, what);
    }

    // ---- how it should be

    public int bestLooks() {
        int best = 0;
        long least = ABOVE_ANY_COST;
        for (int set = 0; set < 1 << plan.steps; set++) {
            flow.through(plan, past.present, past.present.line, set);
            if (flow.cost < least) {
                least = flow.cost;
                best = set;
            }
        }
        return best;
    }

    public int bestOrder(int i) {
        if (!isStep(i)) {
            return BAD;
        }
        findLeastOrder();
        return leastOrder[i];
    }

    public int few(int v) {
        if (v < 0 || v > 250) {
            return BAD;
        }
        int best = NONE;
        int fewest = MOST_STEPS + 1;
        for (int set = 0; set < 1 << plan.steps; set++) {
            if (Integer.bitCount(set) < fewest && hasFewDuds(set, v)) {
                best = set;
                fewest = Integer.bitCount(set);
            }
        }
        return best;
    }

    // ---- whose fault

    public long blame(int i, int k, int what) {
        if (!isStep(i) || !isStep(k) || !isBit(what)) {
            return BAD;
        }
        if (!isFoundBehind(i)) {
            return NONE;
        }
        return part(k > i ? 0 : flow.share[k], flow.dud, what);
    }

    public int first(int i) {
        if (!isStep(i)) {
            return BAD;
        }
        if (!isFoundBehind(i)) {
            return NONE;
        }
        int greatest = 0;
        for (int k = 1; k <= i; k++) {
            if (flow.share[k] > flow.share[greatest]) {
                greatest = k;
            }
        }
        return greatest;
    }

    public int tells(int z, int how) {
        if (!isDraw(z) || how < SOLD_GOOD || how > THROWN) {
            return BAD;
        }
        if (told >= MOST_TOLD) {
            return FULL;
        }
        toldDraw[told] = z;
        toldFate[told] = how;
        told++;
        return told;
    }

    public int forget() {
        int had = told;
        told = 0;
        return had;
    }

    public int who(int what) {
        if (what < 0 || what > 2) {
            return BAD;
        }
        int many = 0;
        int least = NONE;
        int inAll = NONE;
        for (int set = 0; set < 1 << plan.steps; set++) {
            if (explainsTold(set)) {
                least = many == 0 ? set : least;
                inAll = many == 0 ? set : inAll & set;
                many++;
            }
        }
        return what == 0 ? many : what == 1 ? least : inAll;
    }

    // ---- kinds, images

    public int mark(int kind, int s) {
        if (!isStep(s)) {
            return NO;
        }
        switch (kind) {
            case 0: return markStep(s);
            case 1: return markPoint(s);
            case 2: return markEye(s);
            case 3: return markTrue(s);
            case 4: return markBlue(s);
            case 5: return markSack(s);
            default: return NO;
        }
    }

    public int keep(int image) {
        if (!isImage(image)) {
            return BAD;
        }
        images[image].become(past);
        kept[image] = true;
        return past.present.made;
    }

    public int back(int image) {
        if (!isImage(image)) {
            return BAD;
        }
        if (!kept[image]) {
            return STATE;
        }
        past.become(images[image]);
        return past.present.made;
    }

    public int count(int what) {
        switch (what) {
            case 0: return plan.steps;
            case 1: return plan.price;
            case 2: return told;
            case 3: return past.known;
            case 4: return text.length;
            default: return BAD;
        }
    }

    public long trace() {
        return traced;
    }

    // ---- what the calls share

    /** Places in the line run as steps do, so this tells of both. */
    private boolean isStep(int s) {
        return s >= 0 && s < plan.steps;
    }

    private static boolean isBit(int what) {
        return what == 0 || what == 1;
    }

    private static boolean isDraw(int z) {
        return z >= 0 && z <= HIGHEST_DRAW;
    }

    private static boolean isImage(int image) {
        return image >= 0 && image < IMAGES;
    }

    /** The upper (0) or lower (1) number of a fraction in least terms; NONE if nothing is below. */
    private static long part(long upper, long lower, int what) {
        long divisor = commonDivisor(upper, lower);
        if (lower == 0 || divisor == 0) {
            return NONE;
        }
        return (what == 0 ? upper : lower) / divisor;
    }

    private static long commonDivisor(long a, long b) {
        long greater = a;
        long rest = b;
        // Euclid needs fewer than a hundred turns for any two longs.
        for (int turn = 0; turn < 100 && rest != 0; turn++) {
            long next = greater % rest;
            greater = rest;
            rest = next;
        }
        return greater;
    }

    private void flowNow() {
        flow.through(plan, past.present, past.present.line, past.present.looked);
    }

    private boolean hasFewDuds(int set, int v) {
        flow.through(plan, past.present, past.present.line, set);
        long sold = flow.good + flow.dud;
        return sold > 0 && flow.dud * 250 <= sold * v;
    }

    /** Leaves in the flow whose duds, and how many, come to the look behind the i-th step. */
    private boolean isFoundBehind(int i) {
        Moment present = past.present;
        if ((present.looked >> present.line[i] & 1) == 0) {
            return false;
        }
        flow.upTo(i, plan, present);
        return flow.dud > 0;
    }

    private boolean explainsTold(int set) {
        for (int t = 0; t < told; t++) {
            needle.go(plan, past.present, set, toldDraw[t]);
            if (needle.fate() != toldFate[t]) {
                return false;
            }
        }
        return true;
    }

    private void findLeastOrder() {
        for (int i = 0; i < plan.steps; i++) {
            order[i] = i;
        }
        long least = ABOVE_ANY_COST;
        // By numbers every ahead is so, and the orders come by numbers: the first of the least ones stays.
        for (int turn = 0; turn < ORDERS; turn++) {
            if (plan.allows(order)) {
                flow.through(plan, past.present, order, past.present.looked);
                if (flow.cost < least) {
                    least = flow.cost;
                    System.arraycopy(order, 0, leastOrder, 0, plan.steps);
                }
            }
            if (!advance(order, plan.steps)) {
                break;
            }
        }
    }

    /** Makes of an order the next one by numbers; false if it was the last. */
    private static boolean advance(int[] row, int length) {
        int turning = length - 2;
        while (turning >= 0 && row[turning] > row[turning + 1]) {
            turning--;
        }
        if (turning < 0) {
            return false;
        }
        int above = length - 1;
        while (above > turning && row[above] < row[turning]) {
            above--;
        }
        swap(row, turning, above);
        int low = turning + 1;
        for (int high = length - 1; low < high; high--) {
            swap(row, low, high);
            low++;
        }
        return true;
    }

    private static void swap(int[] row, int a, int b) {
        int held = row[a];
        row[a] = row[b];
        row[b] = held;
    }

    private int markStep(int s) {
        traced += 1;
        return plan.seconds[s];
    }

    private int markPoint(int s) {
        traced += 10;
        return markStep(s) + past.present.fault[s];
    }

    private int markEye(int s) {
        traced += 100;
        return markStep(s) - plan.look[s];
    }

    private int markTrue(int s) {
        traced += 1000;
        return markPoint(s) * 2;
    }

    private int markBlue(int s) {
        traced += 10000;
        return markEye(s) + past.present.thrown[s];
    }

    private int markSack(int s) {
        traced += 100000;
        return markStep(s) + past.present.made;
    }

    /** What a text tells; nothing but another text changes it. */
    private static final class Plan {
        int steps;
        int price = FIRST_PRICE;
        final int[] seconds = new int[MOST_STEPS];
        final int[] fault = new int[MOST_STEPS];
        final int[] look = new int[MOST_STEPS];
        final int[] miss = new int[MOST_STEPS];
        final int[] ahead = new int[MOST_STEPS];

        void empty() {
            steps = 0;
            price = FIRST_PRICE;
        }

        boolean mustLead(int one, int other) {
            return (ahead[one] >> other & 1) == 1;
        }

        boolean allows(int[] order) {
            int done = 0;
            for (int i = 0; i < steps; i++) {
                if ((ahead[order[i]] & done) != 0) {
                    return false;
                }
                done |= 1 << order[i];
            }
            return true;
        }
    }

    /** The text's bytes, and the reading of them token by token. */
    private static final class Text {
        static final int END = 0;
        static final int LETTERS = 1;
        static final int NUMBER = 2;
        static final int SEMICOLON = 3;
        static final int WRONG = 4;

        final int[] bytes = new int[MOST_BYTES];
        int length;
        /** Where the token begins that was read last; behind a failed reading, the fault's place. */
        int start;
        private int at;
        private int token;
        /** A number's worth; a lone letter; 0 of letters that are several. */
        private int worth;
        private boolean priced;

        /** False if it is full. */
        boolean add(int c) {
            if (length >= MOST_BYTES) {
                return false;
            }
            bytes[length] = c;
            length++;
            return true;
        }

        /** How many items were read; below 0 if there is a fault. */
        int readInto(Plan plan) {
            at = 0;
            priced = false;
            // Each item takes a byte at least.
            for (int items = 0; items <= MOST_BYTES; items++) {
                readToken();
                if (token == END) {
                    return items;
                }
                boolean stands = false;
                switch (token == LETTERS ? worth : 0) {
                    case 's': stands = plan.steps < MOST_STEPS && readStep(plan); break;
                    case 'h': stands = readAhead(plan); break;
                    case 'p': stands = !priced && readPrice(plan); break;
                    default: break;
                }
                if (!stands || !readEnd()) {
                    return BAD;
                }
            }
            return BAD;
        }

        private boolean readStep(Plan plan) {
            int s = plan.steps;
            if (!readNumber(1, 99)) {
                return false;
            }
            plan.seconds[s] = worth;
            if (!readNumber(0, 9)) {
                return false;
            }
            plan.fault[s] = worth;
            if (!readNumber(1, 30)) {
                return false;
            }
            plan.look[s] = worth;
            if (!readNumber(0, 9)) {
                return false;
            }
            plan.miss[s] = worth;
            plan.ahead[s] = 0;
            plan.steps++;
            return true;
        }

        private boolean readAhead(Plan plan) {
            if (!readNumber(0, plan.steps - 1)) {
                return false;
            }
            int one = worth;
            if (!readNumber(one + 1, plan.steps - 1)) {
                return false;
            }
            plan.ahead[one] |= 1 << worth;
            return true;
        }

        private boolean readPrice(Plan plan) {
            if (!readNumber(0, 99)) {
                return false;
            }
            plan.price = worth;
            priced = true;
            return true;
        }

        private boolean readEnd() {
            readToken();
            return token == SEMICOLON;
        }

        private boolean readNumber(int least, int most) {
            readToken();
            return token == NUMBER && worth >= least && worth <= most;
        }

        private void readToken() {
            while (at < length && bytes[at] == ' ') {
                at++;
            }
            start = at;
            if (at >= length) {
                token = END;
            } else if (isLetter(bytes[at])) {
                takeLetters();
            } else if (isDigit(bytes[at])) {
                takeNumber();
            } else {
                token = bytes[at] == ';' ? SEMICOLON : WRONG;
                at++;
            }
        }

        private void takeLetters() {
            token = LETTERS;
            worth = bytes[at];
            at++;
            while (at < length && isLetter(bytes[at])) {
                worth = 0;
                at++;
            }
        }

        private void takeNumber() {
            boolean zeroAhead = bytes[at] == '0';
            worth = 0;
            while (at < length && isDigit(bytes[at])) {
                // Beyond 99 it is wrong already, and must not wrap around.
                if (worth <= 99) {
                    worth = worth * 10 + bytes[at] - '0';
                }
                at++;
            }
            boolean several = at - start > 1;
            token = worth > 99 || zeroAhead && several ? WRONG : NUMBER;
        }

        private static boolean isLetter(int c) {
            return c >= 'a' && c <= 'z';
        }

        private static boolean isDigit(int c) {
            return c >= '0' && c <= '9';
        }
    }

    /** All that is done at one time: what an undo and an image bring back. */
    private static final class Moment {
        final int[] line = new int[MOST_STEPS];
        final int[] fault = new int[MOST_STEPS];
        final int[] thrown = new int[MOST_STEPS];
        int looked;
        int made;
        int sold;
        int dudsSold;
        int cost;

        void open(Plan plan) {
            for (int s = 0; s < MOST_STEPS; s++) {
                line[s] = s;
                fault[s] = plan.fault[s];
                thrown[s] = 0;
            }
            looked = 0;
            made = 0;
            sold = 0;
            dudsSold = 0;
            cost = 0;
        }

        void become(Moment other) {
            System.arraycopy(other.line, 0, line, 0, MOST_STEPS);
            System.arraycopy(other.fault, 0, fault, 0, MOST_STEPS);
            System.arraycopy(other.thrown, 0, thrown, 0, MOST_STEPS);
            looked = other.looked;
            made = other.made;
            sold = other.sold;
            dudsSold = other.dudsSold;
            cost = other.cost;
        }

        int placeOf(int s, int steps) {
            for (int i = 0; i < steps; i++) {
                if (line[i] == s) {
                    return i;
                }
            }
            return NOWHERE;
        }

        /** The cost needs no guard: 9999 needles of 744 each stay below 9999999. */
        void enter(Needle needle, int price) {
            made++;
            cost += needle.seconds;
            if (needle.fate() == THROWN) {
                thrown[needle.thrownBehind]++;
                return;
            }
            sold++;
            if (needle.isDud) {
                dudsSold++;
                cost += price;
            }
        }
    }

    /** The present and the moments that may come back, the oldest of which is written over. */
    private static final class Past {
        final Moment present = new Moment();
        private final Moment[] earlier = new Moment[MOST_UNDONE];
        private int next;
        int known;

        Past() {
            for (int m = 0; m < MOST_UNDONE; m++) {
                earlier[m] = new Moment();
            }
        }

        void open(Plan plan) {
            present.open(plan);
            next = 0;
            known = 0;
        }

        void remember() {
            earlier[next].become(present);
            next = (next + 1) % MOST_UNDONE;
            known = Math.min(known + 1, MOST_UNDONE);
        }

        /** False if nothing may come back. */
        boolean restore() {
            if (known == 0) {
                return false;
            }
            next = (next + MOST_UNDONE - 1) % MOST_UNDONE;
            present.become(earlier[next]);
            known--;
            return true;
        }

        void become(Past other) {
            present.become(other.present);
            for (int m = 0; m < MOST_UNDONE; m++) {
                earlier[m].become(other.earlier[m]);
            }
            next = other.next;
            known = other.known;
        }
    }

    /** One needle's way through the line, by draws. */
    private static final class Needle {
        int seconds;
        boolean isDud;
        int thrownBehind = NOWHERE;

        void go(Plan plan, Moment moment, int looked, int z) {
            seconds = 0;
            isDud = false;
            thrownBehind = NOWHERE;
            for (int i = 0; i < plan.steps && thrownBehind == NOWHERE; i++) {
                int s = moment.line[i];
                seconds += plan.seconds[s];
                isDud = isDud || draw(z, s) < moment.fault[s];
                if ((looked >> s & 1) == 1) {
                    seconds += plan.look[s];
                    if (isDud && draw(z, s + 5) >= plan.miss[s]) {
                        thrownBehind = s;
                    }
                }
            }
        }

        int fate() {
            if (thrownBehind != NOWHERE) {
                return THROWN;
            }
            return isDud ? SOLD_DUD : SOLD_GOOD;
        }

        private static int draw(int z, int number) {
            long q = 7919L * z + 6151L * number + 1;
            return (int) (q * q % 65521 / 8 % 10);
        }
    }

    /** Needles in the mean: all of them are WHOLE, and each number here is so many of that. */
    private static final class Flow {
        long good;
        long dud;
        long cost;
        /** By places in the line: found and thrown there. */
        final long[] lost = new long[MOST_STEPS];
        /** By places in the line: the duds still under way that were made there. */
        final long[] share = new long[MOST_STEPS];

        void through(Plan plan, Moment moment, int[] line, int looked) {
            begin();
            for (int i = 0; i < plan.steps; i++) {
                int s = line[i];
                work(i, plan.seconds[s], moment.fault[s]);
                lost[i] = 0;
                if ((looked >> s & 1) == 1) {
                    lookBehind(i, plan.look[s], plan.miss[s]);
                }
            }
            cost += dud * plan.price;
        }

        /** Through the i-th step of the line, but not through the look behind it. */
        void upTo(int i, Plan plan, Moment moment) {
            begin();
            for (int j = 0; j <= i && j < plan.steps; j++) {
                int s = moment.line[j];
                work(j, plan.seconds[s], moment.fault[s]);
                if (j < i && (moment.looked >> s & 1) == 1) {
                    lookBehind(j, plan.look[s], plan.miss[s]);
                    thinShares(j, plan.miss[s]);
                }
            }
        }

        private void begin() {
            good = WHOLE;
            dud = 0;
            cost = 0;
        }

        private void work(int i, int seconds, int fault) {
            cost += (good + dud) * seconds;
            share[i] = good / 10 * fault;
            good -= share[i];
            dud += share[i];
        }

        private void lookBehind(int i, int look, int miss) {
            cost += (good + dud) * look;
            lost[i] = dud / 10 * (10 - miss);
            dud -= lost[i];
        }

        private void thinShares(int i, int miss) {
            for (int j = 0; j <= i; j++) {
                share[j] = share[j] / 10 * miss;
            }
        }
    }
}

import java.util.Arrays;

/**
 * Water for a house: taps that are on with told odds, how many of them one must reckon with, in
 * exact fractions; flows up a tree of pipes, widths from a list, what pressure is left at the
 * farthest.
 */
public final class UseOdds {
    /** There is none. */
    public static final int NONE = -1;

    private static final int MAX_KINDS = 8;
    private static final int MAX_FLOW = 10000;
    private static final int MAX_UNDER = 1000;
    private static final int MAX_PIPES = 20;
    private static final int MAX_LENGTH = 1000;
    private static final int MAX_TAPS = 60;
    private static final int MAX_BELOW = 1000000;
    private static final int MAX_ENTRIES = 20;
    private static final int MAX_CAPACITY = 1000000;
    private static final int MAX_WIDTH = 1000;
    private static final int MAX_PRICE = 10000;
    private static final int MAX_MODULUS = 1000000;
    private static final long MAX_HEAD = 1000000000000L;

    private final Kinds kinds = new Kinds();
    private final Tree tree = new Tree();
    private final PriceList list = new PriceList();
    private final Odds odds = new Odds();
    private final Paper paper = new Paper();
    private int shareAbove = 1;
    private int shareBelow = 100;

    /** COUNT by kind and number of taps, NONE where it is not yet reckoned with this share. */
    private final int[][] counts = new int[MAX_KINDS][MAX_TAPS + 1];

    /** Made once, for farthest alone: what is lost from the head down to each pipe. */
    private final long[] drops = new long[MAX_PIPES];

    /** No kinds, no pipes, an empty list; the share is 1 / 100. */
    public UseOdds() {
        forgetCounts();
    }

    /** A kind of taps: its number. */
    public int kind(int flow, int a, int b)
            throws IllegalArgumentException, IllegalStateException {
        require(isWithin(flow, 1, MAX_FLOW));
        require(isWithin(b, 1, MAX_UNDER));
        require(a > 0 && a < b);
        if (kinds.number >= MAX_KINDS) {
            throw new IllegalStateException("there are 8 kinds");
        }
        return kinds.append(flow, a, b);
    }

    /** A pipe that hangs on another one (the first one on NONE): its number. */
    public int pipe(int parent, int length)
            throws IllegalArgumentException, IllegalStateException {
        require(tree.number == 0 ? parent == NONE : tree.has(parent));
        require(isWithin(length, 1, MAX_LENGTH));
        if (tree.number >= MAX_PIPES) {
            throw new IllegalStateException("there are 20 pipes");
        }
        return tree.append(parent, length);
    }

    /** n taps of a kind more at a pipe: how many there are at it. */
    public int taps(int pipe, int kind, int n)
            throws IllegalArgumentException, IllegalStateException {
        requirePipeAndKind(pipe, kind);
        require(isWithin(n, 1, MAX_TAPS));
        if (tree.carried[0][kind] + n > MAX_TAPS) {
            throw new IllegalStateException("there would be more than 60 taps of the kind");
        }
        tree.change(pipe, kind, n);
        return tree.own[pipe][kind];
    }

    /** n taps of a kind at a pipe go: how many are left. */
    public int gone(int pipe, int kind, int n) throws IllegalArgumentException {
        requirePipeAndKind(pipe, kind);
        require(isWithin(n, 1, tree.own[pipe][kind]));
        tree.change(pipe, kind, -n);
        return tree.own[pipe][kind];
    }

    /** The share. */
    public void share(int above, int below) throws IllegalArgumentException {
        require(isWithin(below, 1, MAX_BELOW));
        require(isWithin(above, 0, below));
        shareAbove = above;
        shareBelow = below;
        forgetCounts();
    }

    /** An entry: its number. */
    public int entry(int capacity, int width, int cost)
            throws IllegalArgumentException, IllegalStateException {
        require(isWithin(capacity, 1, MAX_CAPACITY));
        require(isWithin(width, 1, MAX_WIDTH));
        require(isWithin(cost, 1, MAX_PRICE));
        if (list.number >= MAX_ENTRIES) {
            throw new IllegalStateException("there are 20 entries");
        }
        return list.append(capacity, width, cost);
    }

    // ---- odds

    /** How many taps of a kind a pipe carries. */
    public int many(int pipe, int kind) throws IllegalArgumentException {
        requirePipeAndKind(pipe, kind);
        return tree.carried[pipe][kind];
    }

    /** How many taps of a kind one must reckon with at a pipe. */
    public int count(int pipe, int kind) throws IllegalArgumentException {
        requirePipeAndKind(pipe, kind);
        return countOf(pipe, kind);
    }

    /** The paper gets the odds that just k taps, or more than k, are on: how many digits it has. */
    public int write(int pipe, int kind, int k, boolean more) throws IllegalArgumentException {
        requirePipeAndKind(pipe, kind);
        int carried = tree.carried[pipe][kind];
        require(isWithin(k, 0, carried));
        int under = kinds.unders[kind];
        odds.begin(kinds.overs[kind], under, carried);
        for (int on = carried; on > k; on--) {
            odds.oneFewer();
        }
        paper.take(more ? odds.more : odds.just, odds.all, under);
        return paper.upper.length() + paper.lower.length();
    }

    /** How many digits the paper's upper (0) or lower (1) number has; 0 without a paper. */
    public int digits(int which) throws IllegalArgumentException {
        require(isWithin(which, 0, 1));
        return paper.lengthOf(which);
    }

    /** Digit i of the paper's upper (0) or lower (1) number, the highest first. */
    public int digit(int which, int i) throws IllegalArgumentException {
        require(isWithin(which, 0, 1));
        int length = paper.lengthOf(which);
        require(isWithin(i, 0, length - 1));
        return paper.number(which).digitAt(length - 1 - i);
    }

    /** What the paper's upper (0) or lower (1) number leaves when it is divided by m. */
    public int rest(int which, int m) throws IllegalArgumentException, IllegalStateException {
        require(isWithin(which, 0, 1));
        require(isWithin(m, 2, MAX_MODULUS));
        if (!paper.written) {
            throw new IllegalStateException("there is no paper");
        }
        return paper.number(which).remainder(m);
    }

    // ---- pipes

    /** The sum over all kinds of COUNT times the kind's flow. */
    public int flow(int pipe) throws IllegalArgumentException {
        requirePipe(pipe);
        return flowOf(pipe);
    }

    /** The cheapest entry that has the capacity for a pipe's flow; NONE if none has it. */
    public int size(int pipe) throws IllegalArgumentException {
        requirePipe(pipe);
        return list.cheapestFor(flowOf(pipe));
    }

    /** What all pipes cost; NONE if one has no size. */
    public int cost() {
        int sum = 0;
        for (int pipe = 0; pipe < tree.number; pipe++) {
            int entry = list.cheapestFor(flowOf(pipe));
            if (entry == NONE) {
                return NONE;
            }
            sum += tree.lengths[pipe] * list.prices[entry];
        }
        return sum;
    }

    /** What a pipe takes of the pressure; NONE without a size. */
    public long loss(int pipe) throws IllegalArgumentException {
        requirePipe(pipe);
        return lossOf(pipe);
    }

    /** The head less the losses of a pipe and all on which it hangs. */
    public long pressure(int pipe, long head)
            throws IllegalArgumentException, IllegalStateException {
        requirePipe(pipe);
        require(head >= 0 && head <= MAX_HEAD);
        long left = head;
        int at = pipe;
        for (int level = 0; level < MAX_PIPES && tree.has(at); level++) {
            long loss = lossOf(at);
            if (loss == NONE) {
                throw new IllegalStateException("a pipe on the way has no size");
            }
            left -= loss;
            at = tree.parents[at];
        }
        return left;
    }

    /** The pipe with the least pressure, of several the first. */
    public int farthest() throws IllegalStateException {
        if (tree.number == 0) {
            throw new IllegalStateException("there is no pipe");
        }
        int worst = 0;
        for (int pipe = 0; pipe < tree.number; pipe++) {
            long loss = lossOf(pipe);
            if (loss == NONE) {
                throw new IllegalStateException("a pipe has no size");
            }
            int parent = tree.parents[pipe];
            // A parent is an earlier pipe, so its drop already stands.
            drops[pipe] = loss + (tree.has(parent) ? drops[parent] : 0);
            if (drops[pipe] > drops[worst]) {
                worst = pipe;
            }
        }
        return worst;
    }

    private void forgetCounts() {
        for (int kind = 0; kind < MAX_KINDS; kind++) {
            Arrays.fill(counts[kind], NONE);
        }
    }

    private int countOf(int pipe, int kind) {
        int carried = tree.carried[pipe][kind];
        if (counts[kind][carried] == NONE) {
            odds.begin(kinds.overs[kind], kinds.unders[kind], carried);
            counts[kind][carried] = odds.leastCount(shareAbove, shareBelow);
        }
        return counts[kind][carried];
    }

    private int flowOf(int pipe) {
        int sum = 0;
        for (int kind = 0; kind < kinds.number; kind++) {
            sum += countOf(pipe, kind) * kinds.flows[kind];
        }
        return sum;
    }

    private long lossOf(int pipe) {
        int flow = flowOf(pipe);
        int entry = list.cheapestFor(flow);
        if (entry == NONE) {
            return NONE;
        }
        long width = list.widths[entry];
        long cube = width * width * width;
        if (cube < 1) {
            return NONE;
        }
        // A flow that has a size is a million at most, so the product is 10^15 at most.
        return (long) tree.lengths[pipe] * flow * flow / cube;
    }

    private void requirePipe(int pipe) {
        require(tree.has(pipe));
    }

    private void requirePipeAndKind(int pipe, int kind) {
        require(tree.has(pipe) && kinds.has(kind));
    }

    private static void require(boolean legal) {
        if (!legal) {
            throw new IllegalArgumentException("out of bounds, or there is none such");
        }
    }

    private static boolean isWithin(int value, int least, int most) {
        return value >= least && value <= most;
    }

    /** Of 0 and y it is y. */
    private static int commonDivisor(int x, int y) {
        int small = x;
        int big = y;
        // The two shrink at least as fast as Fibonacci numbers do, of which 64 are plenty for an int.
        for (int step = 0; step < 64 && small > 0; step++) {
            int left = big % small;
            big = small;
            small = left;
        }
        return big;
    }

    /** The kinds of taps. */
    private static final class Kinds {
        private int number = 0;
        private final int[] flows = new int[MAX_KINDS];
        private final int[] overs = new int[MAX_KINDS];
        private final int[] unders = new int[MAX_KINDS];

        boolean has(int kind) {
            return kind >= 0 && kind < number;
        }

        int append(int flow, int a, int b) {
            int common = commonDivisor(a, b);
            if (number >= MAX_KINDS || common < 1) {
                return NONE;
            }
            flows[number] = flow;
            // The same odds in smaller numbers keep the powers of them short.
            overs[number] = a / common;
            unders[number] = b / common;
            number++;
            return number - 1;
        }
    }

    /** The pipes and the taps at them. */
    private static final class Tree {
        private int number = 0;
        private final int[] parents = new int[MAX_PIPES];
        private final int[] lengths = new int[MAX_PIPES];
        private final int[][] own = new int[MAX_PIPES][MAX_KINDS];
        private final int[][] carried = new int[MAX_PIPES][MAX_KINDS];

        boolean has(int pipe) {
            return pipe >= 0 && pipe < number;
        }

        int append(int parent, int length) {
            if (number >= MAX_PIPES) {
                return NONE;
            }
            parents[number] = parent;
            lengths[number] = length;
            number++;
            return number - 1;
        }

        /** So many taps more at a pipe, which all pipes on which it hangs carry too. */
        void change(int pipe, int kind, int more) {
            own[pipe][kind] += more;
            int at = pipe;
            for (int level = 0; level < MAX_PIPES && has(at); level++) {
                carried[at][kind] += more;
                at = parents[at];
            }
        }
    }

    /** The list of widths. */
    private static final class PriceList {
        private int number = 0;
        private final int[] capacities = new int[MAX_ENTRIES];
        private final int[] widths = new int[MAX_ENTRIES];
        private final int[] prices = new int[MAX_ENTRIES];

        int append(int capacity, int width, int price) {
            if (number >= MAX_ENTRIES) {
                return NONE;
            }
            capacities[number] = capacity;
            widths[number] = width;
            prices[number] = price;
            number++;
            return number - 1;
        }

        int cheapestFor(int flow) {
            int best = NONE;
            for (int entry = 0; entry < number; entry++) {
                if (capacities[entry] >= flow && (best == NONE || prices[entry] < prices[best])) {
                    best = entry;
                }
            }
            return best;
        }
    }

    /**
     * Odds a / b of each of n taps, as parts of b^n: of just k being on and of more than k. It goes
     * from k = n down, since there both are known at once (a^n and 0) and no part is ever taken away.
     */
    private static final class Odds {
        private final Whole all = new Whole();
        private final Whole just = new Whole();
        private final Whole more = new Whole();
        private int on = 1;
        private int off = 1;
        private int taps = 0;
        private int k = 0;

        void begin(int a, int b, int n) {
            on = a;
            off = b - a;
            taps = n;
            k = n;
            all.becomePower(b, n);
            just.becomePower(a, n);
            more.become(0);
        }

        /** From k to k - 1. */
        void oneFewer() {
            if (k < 1) {
                return;
            }
            more.add(just);
            // (n over k - 1) is (n over k) times k / (n - k + 1), so the division leaves nothing.
            just.multiply(k * off);
            just.divide((taps - k + 1) * on);
            k--;
        }

        /** Uses up what begin has made. */
        int leastCount(int above, int below) {
            // "more" is whole, so it may be held against the share of b^n rounded down.
            all.multiply(above);
            all.divide(below);
            for (int least = taps; least > 0; least--) {
                oneFewer();
                if (more.exceeds(all)) {
                    return least;
                }
            }
            return 0;
        }
    }

    /** A fraction in lowest terms, once one has been written. */
    private static final class Paper {
        /** 1000^60 is below 2^598, and each step halves the lower number at least. */
        private static final int MAX_STEPS = 600;

        private boolean written = false;
        private final Whole upper = new Whole();
        private final Whole lower = new Whole();

        /** The fraction over / under, of which under is a power of root. */
        void take(Whole over, Whole under, int root) {
            upper.become(over);
            lower.become(under);
            written = true;
            for (int step = 0; step < MAX_STEPS; step++) {
                // A prime that divides both divides root, so small numbers tell of it.
                int common = commonDivisor(upper.remainder(root), root);
                common = commonDivisor(lower.remainder(common), common);
                if (common <= 1) {
                    return;
                }
                upper.divide(common);
                lower.divide(common);
            }
        }

        Whole number(int which) {
            return which == 0 ? upper : lower;
        }

        int lengthOf(int which) {
            return written ? number(which).length() : 0;
        }
    }

    /** A whole number from 0 up, held in groups of twelve digits, the lowest first. */
    private static final class Whole {
        /** A group times a million, and a carry, still fit a long. */
        private static final long BASE = 1000000000000L;
        private static final int GROUP_DIGITS = 12;
        /** 192 digits: the largest number is 1000^60 times a million, with 187. */
        private static final int GROUPS = 16;

        private final long[] groups = new long[GROUPS];
        /** The groups from this one on are 0, and so is the one before it only in the number 0. */
        private int used = 1;

        void become(int value) {
            Arrays.fill(groups, 0L);
            groups[0] = value;
            used = 1;
        }

        void become(Whole other) {
            System.arraycopy(other.groups, 0, groups, 0, GROUPS);
            used = other.used;
        }

        void becomePower(int root, int exponent) {
            become(1);
            for (int i = 0; i < exponent; i++) {
                multiply(root);
            }
        }

        /** By 0 .. a million. */
        void multiply(int factor) {
            long carry = 0;
            for (int i = 0; i < used; i++) {
                long product = groups[i] * factor + carry;
                carry = product / BASE;
                groups[i] = product - carry * BASE;
            }
            if (carry > 0 && used < GROUPS) {
                groups[used] = carry;
                used++;
            }
            if (factor == 0) {
                used = 1;
            }
        }

        void add(Whole other) {
            used = Math.max(used, other.used);
            long carry = 0;
            for (int i = 0; i < used; i++) {
                long sum = groups[i] + other.groups[i] + carry;
                carry = sum >= BASE ? 1 : 0;
                groups[i] = sum - carry * BASE;
            }
            if (carry > 0 && used < GROUPS) {
                groups[used] = carry;
                used++;
            }
        }

        /** By 1 .. a million, rounded down. */
        void divide(int divisor) {
            if (divisor < 1) {
                return;
            }
            long left = 0;
            for (int i = used - 1; i >= 0; i--) {
                long part = left * BASE + groups[i];
                groups[i] = part / divisor;
                left = part - groups[i] * divisor;
            }
            // So small a divisor empties one group at most.
            if (used > 1 && groups[used - 1] == 0) {
                used--;
            }
        }

        /** By 1 .. a million. */
        int remainder(int divisor) {
            if (divisor < 1) {
                return 0;
            }
            long left = 0;
            for (int i = used - 1; i >= 0; i--) {
                left = (left * BASE + groups[i]) % divisor;
            }
            return (int) left;
        }

        boolean exceeds(Whole other) {
            if (used != other.used) {
                return used > other.used;
            }
            for (int i = used - 1; i >= 0; i--) {
                if (groups[i] != other.groups[i]) {
                    return groups[i] > other.groups[i];
                }
            }
            return false;
        }

        int length() {
            int length = (used - 1) * GROUP_DIGITS + 1;
            long top = groups[used - 1];
            for (int i = 1; i < GROUP_DIGITS && top >= 10; i++) {
                top /= 10;
                length++;
            }
            return length;
        }

        /** The digit at a place, of which the units have place 0. */
        int digitAt(int place) {
            if (place < 0 || place >= GROUPS * GROUP_DIGITS) {
                return 0;
            }
            long group = groups[place / GROUP_DIGITS];
            for (int i = place % GROUP_DIGITS; i > 0; i--) {
                group /= 10;
            }
            return (int) (group % 10);
        }
    }
}

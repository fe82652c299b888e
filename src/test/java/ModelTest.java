import java.math.BigInteger;
import java.util.ArrayList;
import java.util.Arrays;
import java.util.List;
import java.util.Random;

/**
 * Runs of up to 512 calls, made from written seeds, on an object and on a plain model that keeps to
 * the document's words and reckons everything anew with BigInteger.
 */
public final class ModelTest {
    private static final int RUNS = 400;
    private static final int CALLS = 512;
    private static final int MAX_SHOWN = 20;

    private static int wrong = 0;

    public static void main(String[] args) {
        for (int run = 0; run < RUNS && wrong < MAX_SHOWN; run++) {
            oneRun(run);
        }
        System.out.println(RUNS + " runs, " + wrong + " with a wrong answer");
        if (wrong != 0) {
            System.exit(1);
        }
    }

    private static void oneRun(int seed) {
        Random random = new Random(seed);
        Maker maker = new Maker(random, seed);
        UseOdds object = new UseOdds();
        Model model = new Model();
        for (int i = 0; i < CALLS; i++) {
            long[] call = maker.call(model);
            String want;
            try {
                want = Long.toString(model.answer(call));
            } catch (IllegalArgumentException | IllegalStateException e) {
                want = "throws." + e.getClass().getSimpleName();
            }
            String got;
            try {
                got = Long.toString(ofObject(object, call));
            } catch (RuntimeException e) {
                got = "throws." + e.getClass().getSimpleName();
            }
            if (!got.equals(want)) {
                wrong++;
                System.out.println("seed " + seed + ", call " + i + " " + Arrays.toString(call)
                        + ": answered " + got + ", due is " + want);
                return;
            }
        }
    }

    private static long ofObject(UseOdds x, long[] c) {
        int p = (int) c[1];
        int q = (int) c[2];
        int r = (int) c[3];
        switch ((int) c[0]) {
            case 0: return x.kind(p, q, r);
            case 1: return x.pipe(p, q);
            case 2: return x.taps(p, q, r);
            case 3: return x.gone(p, q, r);
            case 4: x.share(p, q); return 0;
            case 5: return x.entry(p, q, r);
            case 6: return x.many(p, q);
            case 7: return x.count(p, q);
            case 8: return x.write(p, q, r, c[4] != 0);
            case 9: return x.digits(p);
            case 10: return x.digit(p, q);
            case 11: return x.rest(p, q);
            case 12: return x.flow(p);
            case 13: return x.size(p);
            case 14: return x.cost();
            case 15: return x.loss(p);
            case 16: return x.pressure(p, c[2]);
            default: return x.farthest();
        }
    }

    /** Makes calls, most of them legal ones, some at the edges or beyond. */
    private static final class Maker {
        private final Random random;
        private final int most;
        private final int maxUnder;
        private final int maxFlow;
        private final int maxTaps;
        private final boolean chain;

        Maker(Random random, int seed) {
            this.random = random;
            most = seed % 3 == 0 ? 1000 : 40;
            maxUnder = new int[] {1000, 2, 10, 64, 30}[seed % 5];
            maxFlow = new int[] {10000, 10, 300}[seed % 3];
            maxTaps = new int[] {60, 4, 12}[seed % 3];
            chain = seed % 4 == 0;
        }

        long[] call(Model model) {
            int which = random.nextInt(24);
            if (which >= 18) {
                which = new int[] {2, 2, 3, 8, 10, 10}[which - 18];
            }
            // Sharing less often and building early lets the runs get somewhere.
            if (which == 4 && random.nextInt(3) != 0) {
                which = 7;
            }
            long[] call = legal(which, model);
            if (random.nextInt(12) == 0) {
                int spoilt = 1 + random.nextInt(3);
                call[spoilt] = spoil(call[spoilt]);
            }
            return call;
        }

        private long spoil(long value) {
            int[] odd = {-1, 0, 1, 2, 8, 20, 60, 61, 1000, 1001, 10000, 10001, 1000000, 1000001,
                Integer.MAX_VALUE, Integer.MIN_VALUE, -2};
            int pick = random.nextInt(odd.length + 3);
            return pick < odd.length ? odd[pick] : value + pick - odd.length - 1;
        }

        private long upTo(int bound) {
            return 1 + random.nextInt(Math.max(1, bound));
        }

        private long below(int bound) {
            return random.nextInt(Math.max(1, bound));
        }

        private long[] legal(int which, Model model) {
            int pipes = model.parents.size();
            int kinds = model.flows.size();
            long pipe = below(pipes);
            long kind = below(kinds);
            switch (which) {
                case 0: {
                    long b = 1 + upTo(maxUnder - 1);
                    return of(which, upTo(maxFlow), upTo((int) b - 1), b, 0);
                }
                case 1:
                    return of(which, chain ? pipes - 1 : pipes == 0 ? -1 : pipe, upTo(most), 0, 0);
                case 2:
                    return of(which, pipe, kind, random.nextInt(5) == 0 ? upTo(60) : upTo(maxTaps), 0);
                case 3:
                    return of(which, pipe, kind, upTo(4), 0);
                case 4:
                    return newShare();
                case 5:
                    return of(which, upTo(random.nextBoolean() ? 1000000 : 60 * maxFlow > 1000000
                            ? 1000000 : 60 * maxFlow), upTo(most), upTo(random.nextBoolean() ? 3 : 10000), 0);
                case 8: {
                    int carried = pipes > 0 && kinds > 0 ? model.carried((int) pipe, (int) kind) : 0;
                    return of(which, pipe, kind, below(carried + 1), below(2));
                }
                case 10: {
                    int number = random.nextInt(2);
                    String text = number == 0 ? model.upper : model.lower;
                    return of(which, number, below(text.length()), 0, 0);
                }
                case 9:
                    return of(which, below(2), 0, 0, 0);
                case 11:
                    return of(which, below(2), 1 + upTo(random.nextBoolean() ? 999999 : 30), 0, 0);
                case 16:
                    return of(which, pipe, random.nextBoolean() ? 1000000000000L : below(1000000), 0, 0);
                default:
                    return of(which, pipe, kind, 0, 0);
            }
        }

        private long[] newShare() {
            switch (random.nextInt(4)) {
                case 0: return of(4, below(2), 1, 0, 0);
                case 1: return of(4, 1, upTo(1000000), 0, 0);
                case 2: {
                    // Shares that odds may meet just so.
                    long power = (long) Math.pow(maxUnder, random.nextInt(20));
                    long down = power < 1 || power > 1000000 ? 100 : power;
                    return of(4, below((int) down + 1), down, 0, 0);
                }
                default: {
                    long down = upTo(1000000);
                    return of(4, below((int) down + 1), down, 0, 0);
                }
            }
        }

        private static long[] of(long which, long a, long b, long c, long d) {
            return new long[] {which, a, b, c, d};
        }
    }

    /** The document's words, without any thought of speed. */
    private static final class Model {
        private final List<Integer> flows = new ArrayList<>();
        private final List<int[]> odds = new ArrayList<>();
        private final List<Integer> parents = new ArrayList<>();
        private final List<Integer> lengths = new ArrayList<>();
        private final int[][] taps = new int[20][8];
        private final List<int[]> entries = new ArrayList<>();
        private final BigInteger[][][] mores = new BigInteger[8][61][];
        private int above = 1;
        private int below = 100;
        private String upper = "";
        private String lower = "";

        long answer(long[] c) {
            int p = (int) c[1];
            int q = (int) c[2];
            int r = (int) c[3];
            switch ((int) c[0]) {
                case 0: return newKind(p, q, r);
                case 1: return newPipe(p, q);
                case 2: return moreTaps(p, q, r);
                case 3: return fewerTaps(p, q, r);
                case 4: return newShare(p, q);
                case 5: return newEntry(p, q, r);
                case 6: legal(isPipe(p) && isKind(q)); return carried(p, q);
                case 7: legal(isPipe(p) && isKind(q)); return count(p, q);
                case 8: return write(p, q, r, c[4] != 0);
                case 9: legal(p == 0 || p == 1); return number(p).length();
                case 10: return digit(p, q);
                case 11: return rest(p, q);
                case 12: legal(isPipe(p)); return flow(p);
                case 13: legal(isPipe(p)); return size(p);
                case 14: return cost();
                case 15: legal(isPipe(p)); return loss(p);
                case 16: return pressure(p, c[2]);
                default: return farthest();
            }
        }

        private static void legal(boolean holds) {
            if (!holds) {
                throw new IllegalArgumentException();
            }
        }

        private static void fits(boolean holds) {
            if (!holds) {
                throw new IllegalStateException();
            }
        }

        private boolean isPipe(int pipe) {
            return 0 <= pipe && pipe < parents.size();
        }

        private boolean isKind(int kind) {
            return 0 <= kind && kind < flows.size();
        }

        private long newKind(int flow, int a, int b) {
            legal(1 <= flow && flow <= 10000 && 0 < a && a < b && b <= 1000);
            fits(flows.size() < 8);
            flows.add(flow);
            odds.add(new int[] {a, b});
            return flows.size() - 1;
        }

        private long newPipe(int parent, int length) {
            legal(parents.isEmpty() ? parent == -1 : isPipe(parent));
            legal(1 <= length && length <= 1000);
            fits(parents.size() < 20);
            parents.add(parent);
            lengths.add(length);
            return parents.size() - 1;
        }

        private long moreTaps(int pipe, int kind, int n) {
            legal(isPipe(pipe) && isKind(kind) && 1 <= n && n <= 60);
            int all = 0;
            for (int[] row : taps) {
                all += row[kind];
            }
            fits(all + n <= 60);
            taps[pipe][kind] += n;
            return taps[pipe][kind];
        }

        private long fewerTaps(int pipe, int kind, int n) {
            legal(isPipe(pipe) && isKind(kind) && 1 <= n && n <= taps[pipe][kind]);
            taps[pipe][kind] -= n;
            return taps[pipe][kind];
        }

        private long newShare(int up, int down) {
            legal(1 <= down && down <= 1000000 && 0 <= up && up <= down);
            above = up;
            below = down;
            return 0;
        }

        private long newEntry(int capacity, int width, int cost) {
            legal(1 <= capacity && capacity <= 1000000);
            legal(1 <= width && width <= 1000 && 1 <= cost && cost <= 10000);
            fits(entries.size() < 20);
            entries.add(new int[] {capacity, width, cost});
            return entries.size() - 1;
        }

        private boolean hangsOn(int pipe, int other) {
            return pipe == other || pipe > 0 && hangsOn(parents.get(pipe), other);
        }

        private int carried(int pipe, int kind) {
            int sum = 0;
            for (int other = 0; other < parents.size(); other++) {
                sum += hangsOn(other, pipe) ? taps[other][kind] : 0;
            }
            return sum;
        }

        private BigInteger just(int kind, int n, int k) {
            int a = odds.get(kind)[0];
            int b = odds.get(kind)[1];
            BigInteger ways = BigInteger.ONE;
            for (int i = 1; i <= k; i++) {
                ways = ways.multiply(BigInteger.valueOf(n - k + i)).divide(BigInteger.valueOf(i));
            }
            return ways.multiply(BigInteger.valueOf(a).pow(k)).multiply(BigInteger.valueOf(b - a).pow(n - k));
        }

        /** Kept by kind and n, for the odds of a kind never change. */
        private BigInteger more(int kind, int n, int k) {
            if (mores[kind][n] == null) {
                mores[kind][n] = new BigInteger[n + 1];
                for (int from = 0; from <= n; from++) {
                    BigInteger sum = BigInteger.ZERO;
                    for (int i = from + 1; i <= n; i++) {
                        sum = sum.add(just(kind, n, i));
                    }
                    mores[kind][n][from] = sum;
                }
            }
            return mores[kind][n][k];
        }

        private BigInteger all(int kind, int n) {
            return BigInteger.valueOf(odds.get(kind)[1]).pow(n);
        }

        private int count(int pipe, int kind) {
            int n = carried(pipe, kind);
            BigInteger bound = all(kind, n).multiply(BigInteger.valueOf(above));
            int k = 0;
            while (more(kind, n, k).multiply(BigInteger.valueOf(below)).compareTo(bound) > 0) {
                k++;
            }
            return k;
        }

        private long write(int pipe, int kind, int k, boolean isMore) {
            legal(isPipe(pipe) && isKind(kind));
            int n = carried(pipe, kind);
            legal(0 <= k && k <= n);
            BigInteger over = isMore ? more(kind, n, k) : just(kind, n, k);
            BigInteger under = all(kind, n);
            BigInteger common = over.gcd(under);
            upper = over.divide(common).toString();
            lower = under.divide(common).toString();
            return upper.length() + lower.length();
        }

        private String number(int which) {
            return which == 0 ? upper : lower;
        }

        private long digit(int which, int i) {
            legal(which == 0 || which == 1);
            legal(0 <= i && i < number(which).length());
            return number(which).charAt(i) - '0';
        }

        private long rest(int which, int m) {
            legal((which == 0 || which == 1) && 2 <= m && m <= 1000000);
            fits(!upper.isEmpty());
            return new BigInteger(number(which)).mod(BigInteger.valueOf(m)).intValue();
        }

        private int flow(int pipe) {
            int sum = 0;
            for (int kind = 0; kind < flows.size(); kind++) {
                sum += count(pipe, kind) * flows.get(kind);
            }
            return sum;
        }

        private int size(int pipe) {
            int flow = flow(pipe);
            int best = -1;
            for (int i = entries.size() - 1; i >= 0; i--) {
                boolean enough = entries.get(i)[0] >= flow;
                if (enough && (best < 0 || entries.get(i)[2] <= entries.get(best)[2])) {
                    best = i;
                }
            }
            return best;
        }

        private long cost() {
            long sum = 0;
            for (int pipe = 0; pipe < parents.size(); pipe++) {
                int size = size(pipe);
                if (size < 0) {
                    return -1;
                }
                sum += lengths.get(pipe) * entries.get(size)[2];
            }
            return sum;
        }

        private long loss(int pipe) {
            int size = size(pipe);
            if (size < 0) {
                return -1;
            }
            BigInteger flow = BigInteger.valueOf(flow(pipe));
            BigInteger width = BigInteger.valueOf(entries.get(size)[1]);
            return BigInteger.valueOf(lengths.get(pipe)).multiply(flow).multiply(flow)
                    .divide(width.pow(3)).longValueExact();
        }

        private long pressure(int pipe, long head) {
            legal(isPipe(pipe) && 0 <= head && head <= 1000000000000L);
            long left = head;
            for (int at = pipe; at >= 0; at = parents.get(at)) {
                long loss = loss(at);
                fits(loss >= 0);
                left -= loss;
            }
            return left;
        }

        private long farthest() {
            fits(!parents.isEmpty());
            for (int pipe = 0; pipe < parents.size(); pipe++) {
                fits(size(pipe) >= 0);
            }
            int worst = 0;
            long least = pressure(0, 0);
            for (int pipe = 1; pipe < parents.size(); pipe++) {
                long left = pressure(pipe, 0);
                worst = left < least ? pipe : worst;
                least = Math.min(left, least);
            }
            return worst;
        }
    }
}

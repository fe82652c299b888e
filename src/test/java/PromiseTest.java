import java.math.BigInteger;

/** The promises one by one: ordinary inputs, the edges that the document names, wrong inputs. */
public final class PromiseTest {
    private static final int LOW = Integer.MIN_VALUE;
    private static final int HIGH = Integer.MAX_VALUE;

    private static int wrong = 0;
    private static int checks = 0;
    private static String promise = "";

    /** A call whose answer is looked at. */
    private interface Call {
        long answer();
    }

    public static void main(String[] args) {
        newObject();
        kind();
        pipe();
        taps();
        gone();
        share();
        entry();
        many();
        count();
        write();
        digits();
        digit();
        rest();
        flow();
        size();
        cost();
        loss();
        pressure();
        farthest();
        System.out.println(checks + " checks, " + wrong + " wrong");
        if (wrong != 0) {
            System.exit(1);
        }
    }

    private static void newObject() {
        promise = "1 a new object";
        UseOdds x = new UseOdds();
        due(-1, () -> UseOdds.NONE);
        bad(() -> x.many(0, 0));
        bad(() -> x.flow(0));
        due(0, () -> x.cost());
        due(0, () -> x.digits(0));
        due(0, () -> x.digits(1));
        state(() -> x.farthest());
        due(0, () -> x.kind(1, 1, 100));
        due(0, () -> x.pipe(UseOdds.NONE, 1));
        bad(() -> x.many(0, 1));
        due(0, () -> x.many(0, 0));
        due(UseOdds.NONE, () -> x.size(0));
        due(1, () -> x.taps(0, 0, 1));
        // 1 / 100 is not above the share of a new object, 2 / 100 - 1 / 10000 is.
        due(0, () -> x.count(0, 0));
        due(2, () -> x.taps(0, 0, 1));
        due(1, () -> x.count(0, 0));
    }

    private static void kind() {
        promise = "2 kind";
        UseOdds x = new UseOdds();
        for (int flow : new int[] {0, -1, 10001, LOW, HIGH}) {
            bad(() -> x.kind(flow, 1, 2));
        }
        for (int a : new int[] {0, -1, 2, 3, LOW, HIGH}) {
            bad(() -> x.kind(1, a, 2));
        }
        for (int b : new int[] {1001, 1, 0, -1, LOW, HIGH}) {
            bad(() -> x.kind(1, 1, b));
        }
        bad(() -> x.kind(1, -2, -1));
        bad(() -> x.kind(1, 1000, 1000));
        due(0, () -> x.kind(1, 1, 2));
        due(1, () -> x.kind(10000, 999, 1000));
        due(2, () -> x.kind(10000, 1, 1000));
        for (int i = 3; i < 8; i++) {
            int number = i;
            due(number, () -> x.kind(number, 2, 4));
        }
        state(() -> x.kind(1, 1, 2));
        bad(() -> x.kind(0, 1, 2));
        bad(() -> x.kind(1, 2, 2));
        bad(() -> x.kind(1, 1, 1001));
        due(0, () -> x.pipe(-1, 1));
        due(0, () -> x.many(0, 7));
        bad(() -> x.many(0, 8));
    }

    private static void pipe() {
        promise = "3 pipe";
        UseOdds x = new UseOdds();
        for (int parent : new int[] {0, 1, -2, LOW, HIGH}) {
            bad(() -> x.pipe(parent, 1));
        }
        for (int length : new int[] {0, -1, 1001, LOW, HIGH}) {
            bad(() -> x.pipe(-1, length));
        }
        due(0, () -> x.pipe(-1, 1000));
        for (int parent : new int[] {-1, 1, -2, LOW, HIGH}) {
            bad(() -> x.pipe(parent, 1));
        }
        for (int length : new int[] {0, -1, 1001, LOW, HIGH}) {
            bad(() -> x.pipe(0, length));
        }
        for (int i = 1; i < 20; i++) {
            int number = i;
            due(number, () -> x.pipe(number - 1, number));
        }
        state(() -> x.pipe(19, 1));
        bad(() -> x.pipe(20, 1));
        bad(() -> x.pipe(-1, 1));
        bad(() -> x.pipe(0, 0));
        due(0, () -> x.flow(19));
        bad(() -> x.flow(20));
    }

    private static void taps() {
        promise = "4 taps";
        UseOdds x = new UseOdds();
        bad(() -> x.taps(0, 0, 1));
        x.kind(1, 1, 2);
        bad(() -> x.taps(0, 0, 1));
        x.kind(1, 1, 3);
        x.pipe(-1, 1);
        x.pipe(0, 1);
        for (int n : new int[] {0, -1, 61, LOW, HIGH}) {
            bad(() -> x.taps(0, 0, n));
        }
        for (int none : new int[] {-1, 2, LOW, HIGH}) {
            bad(() -> x.taps(none, 0, 1));
            bad(() -> x.taps(0, none, 1));
        }
        due(30, () -> x.taps(0, 0, 30));
        due(1, () -> x.taps(1, 0, 1));
        due(35, () -> x.taps(0, 0, 5));
        state(() -> x.taps(0, 0, 25));
        state(() -> x.taps(1, 0, 60));
        bad(() -> x.taps(1, 0, 61));
        due(36, () -> x.many(0, 0));
        due(25, () -> x.taps(1, 0, 24));
        due(60, () -> x.many(0, 0));
        state(() -> x.taps(0, 0, 1));
        bad(() -> x.taps(0, 0, 0));
        due(60, () -> x.taps(1, 1, 60));
        state(() -> x.taps(0, 1, 1));
    }

    private static void gone() {
        promise = "5 gone";
        UseOdds x = new UseOdds();
        bad(() -> x.gone(0, 0, 1));
        x.kind(1, 1, 2);
        x.kind(1, 1, 2);
        x.pipe(-1, 1);
        x.pipe(0, 1);
        bad(() -> x.gone(0, 0, 1));
        x.taps(1, 0, 60);
        bad(() -> x.gone(0, 0, 1));
        bad(() -> x.gone(1, 1, 1));
        for (int n : new int[] {0, -1, 61, LOW, HIGH}) {
            bad(() -> x.gone(1, 0, n));
        }
        for (int none : new int[] {-1, 2, LOW, HIGH}) {
            bad(() -> x.gone(none, 0, 1));
            bad(() -> x.gone(1, none, 1));
        }
        due(59, () -> x.gone(1, 0, 1));
        due(59, () -> x.many(0, 0));
        due(1, () -> x.taps(0, 0, 1));
        state(() -> x.taps(0, 0, 1));
        due(0, () -> x.gone(1, 0, 59));
        bad(() -> x.gone(1, 0, 1));
        due(1, () -> x.many(0, 0));
        due(0, () -> x.many(1, 0));
        due(60, () -> x.taps(0, 0, 59));
    }

    private static void share() {
        promise = "6 share";
        UseOdds x = new UseOdds();
        x.kind(1, 1, 2);
        x.pipe(-1, 1);
        x.taps(0, 0, 4);
        share(x, 5, 16);
        for (int below : new int[] {0, -1, 1000001, LOW, HIGH}) {
            bad(() -> share(x, 0, below));
        }
        for (int above : new int[] {-1, 17, LOW, HIGH}) {
            bad(() -> share(x, above, 16));
        }
        bad(() -> share(x, -1, -1));
        bad(() -> share(x, 1000001, 1000001));
        due(2, () -> x.count(0, 0));
        due(0, () -> share(x, 4999999 / 16, 1000000));
        due(3, () -> x.count(0, 0));
        due(0, () -> share(x, 312500, 1000000));
        due(2, () -> x.count(0, 0));
        due(0, () -> share(x, 1000000, 1000000));
        due(0, () -> x.count(0, 0));
        due(0, () -> share(x, 0, 1000000));
        due(4, () -> x.count(0, 0));
        due(0, () -> share(x, 1, 1));
        due(0, () -> x.count(0, 0));
        due(0, () -> share(x, 0, 1));
        due(4, () -> x.count(0, 0));
    }

    private static void entry() {
        promise = "7 entry";
        UseOdds x = new UseOdds();
        for (int none : new int[] {0, -1, LOW, HIGH}) {
            bad(() -> x.entry(none, 1, 1));
            bad(() -> x.entry(1, none, 1));
            bad(() -> x.entry(1, 1, none));
        }
        bad(() -> x.entry(1000001, 1, 1));
        bad(() -> x.entry(1, 1001, 1));
        bad(() -> x.entry(1, 1, 10001));
        due(0, () -> x.entry(1, 1, 1));
        due(1, () -> x.entry(1000000, 1000, 10000));
        for (int i = 2; i < 20; i++) {
            due(i, () -> x.entry(5, 5, 5));
        }
        state(() -> x.entry(5, 5, 5));
        bad(() -> x.entry(0, 5, 5));
        bad(() -> x.entry(5, 1001, 5));
        bad(() -> x.entry(5, 5, 10001));
    }

    private static void many() {
        promise = "8 many";
        UseOdds x = forked();
        due(15, () -> x.many(0, 0));
        due(6, () -> x.many(1, 0));
        due(4, () -> x.many(2, 0));
        due(8, () -> x.many(3, 0));
        due(0, () -> x.many(0, 1));
        for (int none : new int[] {-1, 4, LOW, HIGH}) {
            bad(() -> x.many(none, 0));
        }
        for (int none : new int[] {-1, 2, LOW, HIGH}) {
            bad(() -> x.many(0, none));
        }
        due(4, () -> x.pipe(2, 1));
        due(0, () -> x.many(4, 0));
        x.taps(4, 0, 16);
        due(31, () -> x.many(0, 0));
        due(22, () -> x.many(1, 0));
        due(20, () -> x.many(2, 0));
        due(8, () -> x.many(3, 0));
    }

    private static void count() {
        promise = "9 count";
        UseOdds x = forked();
        due(0, () -> x.count(0, 1));
        for (int none : new int[] {-1, 4, LOW, HIGH}) {
            bad(() -> x.count(none, 0));
        }
        for (int none : new int[] {-1, 2, LOW, HIGH}) {
            bad(() -> x.count(0, none));
        }
        due(4, () -> x.count(2, 0));
        // Of 8 with odds 1 / 2, more than 3 are on with odds 163 / 256, more than 4 with 93 / 256.
        share(x, 163, 256);
        due(3, () -> x.count(3, 0));
        share(x, 162, 256);
        due(4, () -> x.count(3, 0));
        share(x, 93, 256);
        due(4, () -> x.count(3, 0));
        x.gone(3, 0, 7);
        due(0, () -> share(x, 1, 2));
        due(0, () -> x.count(3, 0));
        share(x, 499999, 1000000);
        due(1, () -> x.count(3, 0));
        countOfMost();
    }

    /** Odds 999 / 1000 and 60 taps: the largest numbers that there are. */
    private static void countOfMost() {
        UseOdds x = new UseOdds();
        x.kind(1, 999, 1000);
        x.kind(1, 1, 1000);
        x.pipe(-1, 1);
        x.taps(0, 0, 60);
        x.taps(0, 1, 60);
        due(60, () -> x.count(0, 0));
        due(1, () -> x.count(0, 1));
        share(x, 999999, 1000000);
        due(57, () -> x.count(0, 0));
        due(0, () -> x.count(0, 1));
        share(x, 1, 1000000);
        due(60, () -> x.count(0, 0));
        due(3, () -> x.count(0, 1));
    }

    private static void write() {
        promise = "10 write";
        UseOdds x = forked();
        paper(x, 0, 1, 0, false, "1", "1");
        paper(x, 0, 1, 0, true, "0", "1");
        bad(() -> x.write(0, 1, 1, false));
        for (int none : new int[] {-1, 4, LOW, HIGH}) {
            bad(() -> x.write(none, 0, 0, false));
        }
        for (int none : new int[] {-1, 2, LOW, HIGH}) {
            bad(() -> x.write(0, none, 0, true));
        }
        paper(x, 2, 0, 2, false, "3", "8");
        for (int k : new int[] {-1, 5, LOW, HIGH}) {
            bad(() -> x.write(2, 0, k, false));
            bad(() -> x.write(2, 0, k, true));
        }
        // A call that throws leaves the paper alone.
        reads(x, "3", "8");
        paper(x, 2, 0, 0, false, "1", "16");
        paper(x, 2, 0, 4, false, "1", "16");
        paper(x, 2, 0, 0, true, "15", "16");
        paper(x, 2, 0, 1, true, "11", "16");
        paper(x, 2, 0, 3, true, "1", "16");
        paper(x, 2, 0, 4, true, "0", "1");
        // The paper stays what it was when the taps change.
        paper(x, 2, 0, 2, true, "5", "16");
        x.gone(2, 0, 4);
        reads(x, "5", "16");
        writeUnreduced();
        writeMost();
        int[][] odds = {{1, 2}, {1, 3}, {3, 7}, {7, 10}, {20, 512}, {1, 997}, {450, 990}, {1, 1000}};
        for (int[] pair : odds) {
            writeAll(pair[0], pair[1], 60);
            writeAll(pair[0], pair[1], 41);
        }
    }

    /** Odds that are not told in lowest terms. */
    private static void writeUnreduced() {
        UseOdds x = new UseOdds();
        x.kind(1, 500, 1000);
        x.kind(1, 6, 9);
        x.pipe(-1, 1);
        x.taps(0, 0, 2);
        x.taps(0, 1, 3);
        paper(x, 0, 0, 1, false, "1", "2");
        paper(x, 0, 0, 0, true, "3", "4");
        paper(x, 0, 1, 1, false, "2", "9");
        paper(x, 0, 1, 1, true, "20", "27");
    }

    private static void writeMost() {
        UseOdds x = new UseOdds();
        x.kind(1, 999, 1000);
        x.pipe(-1, 1);
        x.taps(0, 0, 60);
        String all = BigInteger.valueOf(1000).pow(60).toString();
        paper(x, 0, 0, 60, false, BigInteger.valueOf(999).pow(60).toString(), all);
        paper(x, 0, 0, 0, false, "1", all);
        BigInteger some = BigInteger.valueOf(1000).pow(60).subtract(BigInteger.ONE);
        paper(x, 0, 0, 0, true, some.toString(), all);
        paper(x, 0, 0, 60, true, "0", "1");
    }

    /** All odds of a kind, by their digits' number and what they leave. */
    private static void writeAll(int a, int b, int n) {
        UseOdds x = new UseOdds();
        x.kind(1, a, b);
        x.pipe(-1, 1);
        x.taps(0, 0, n);
        BigInteger all = BigInteger.valueOf(b).pow(n);
        BigInteger more = BigInteger.ZERO;
        BigInteger ways = BigInteger.ONE;
        for (int i = n; i >= 0; i--) {
            int k = i;
            BigInteger just = ways.multiply(BigInteger.valueOf(a).pow(k))
                    .multiply(BigInteger.valueOf(b - a).pow(n - k));
            leaves(x, k, false, just, all);
            leaves(x, k, true, more, all);
            more = more.add(just);
            ways = ways.multiply(BigInteger.valueOf(k)).divide(BigInteger.valueOf(n - k + 1));
        }
    }

    private static void leaves(UseOdds x, int k, boolean more, BigInteger over, BigInteger under) {
        BigInteger common = over.gcd(under);
        BigInteger upper = over.divide(common);
        BigInteger lower = under.divide(common);
        BigInteger prime = BigInteger.valueOf(999983);
        due(upper.toString().length() + lower.toString().length(), () -> x.write(0, 0, k, more));
        due(upper.mod(prime).intValue(), () -> x.rest(0, 999983));
        due(lower.mod(prime).intValue(), () -> x.rest(1, 999983));
    }

    private static void digits() {
        promise = "11 digits";
        UseOdds x = forked();
        for (int none : new int[] {-1, 2, LOW, HIGH}) {
            bad(() -> x.digits(none));
        }
        due(0, () -> x.digits(0));
        due(0, () -> x.digits(1));
        bad(() -> x.write(2, 0, 5, true));
        due(0, () -> x.digits(0));
        due(4, () -> x.write(2, 0, 1, true));
        due(2, () -> x.digits(0));
        due(2, () -> x.digits(1));
        due(3, () -> x.write(2, 0, 3, true));
        due(1, () -> x.digits(0));
        due(2, () -> x.digits(1));
        for (int none : new int[] {-1, 2, LOW, HIGH}) {
            bad(() -> x.digits(none));
        }
        due(2, () -> x.write(2, 0, 4, true));
        due(1, () -> x.digits(0));
        due(1, () -> x.digits(1));
        digitsOfPowers();
    }

    /** Lower numbers 10 .. 10^60, each of which has a digit more than the one before. */
    private static void digitsOfPowers() {
        UseOdds x = new UseOdds();
        x.kind(1, 1, 10);
        x.pipe(-1, 1);
        for (int n = 1; n <= 60; n++) {
            int taps = n;
            x.taps(0, 0, 1);
            due(taps + 2, () -> x.write(0, 0, taps, false));
            due(taps + 1, () -> x.digits(1));
            due(1, () -> x.digit(1, 0));
            due(0, () -> x.digit(1, taps));
            bad(() -> x.digit(1, taps + 1));
        }
    }

    private static void digit() {
        promise = "12 digit";
        UseOdds x = forked();
        bad(() -> x.digit(0, 0));
        bad(() -> x.digit(1, 0));
        x.write(3, 0, 4, true);
        reads(x, "93", "256");
        for (int i : new int[] {-1, 2, 3, LOW, HIGH}) {
            bad(() -> x.digit(0, i));
        }
        for (int i : new int[] {-1, 3, LOW, HIGH}) {
            bad(() -> x.digit(1, i));
        }
        for (int none : new int[] {-1, 2, LOW, HIGH}) {
            bad(() -> x.digit(none, 0));
        }
        x.write(3, 0, 8, true);
        due(0, () -> x.digit(0, 0));
        bad(() -> x.digit(0, 1));
        due(1, () -> x.digit(1, 0));
        bad(() -> x.digit(1, 1));
    }

    private static void rest() {
        promise = "13 rest";
        UseOdds x = forked();
        state(() -> x.rest(0, 2));
        state(() -> x.rest(1, 1000000));
        for (int round = 0; round < 2; round++) {
            for (int none : new int[] {-1, 2, LOW, HIGH}) {
                bad(() -> x.rest(none, 2));
            }
            for (int m : new int[] {1, 0, -1, 1000001, LOW, HIGH}) {
                bad(() -> x.rest(0, m));
                bad(() -> x.rest(1, m));
            }
            x.write(3, 0, 4, true);
        }
        due(1, () -> x.rest(0, 2));
        due(3, () -> x.rest(0, 10));
        due(0, () -> x.rest(0, 93));
        due(93, () -> x.rest(0, 94));
        due(0, () -> x.rest(1, 2));
        due(6, () -> x.rest(1, 10));
        due(256, () -> x.rest(1, 1000000));
        x.write(3, 0, 8, true);
        due(0, () -> x.rest(0, 2));
        due(1, () -> x.rest(1, 2));
        restOfMost();
    }

    private static void restOfMost() {
        UseOdds x = new UseOdds();
        x.kind(1, 999, 1000);
        x.pipe(-1, 1);
        x.taps(0, 0, 60);
        x.write(0, 0, 60, false);
        BigInteger upper = BigInteger.valueOf(999).pow(60);
        BigInteger lower = BigInteger.valueOf(1000).pow(60);
        for (int m : new int[] {2, 3, 999, 65536, 999983, 999999, 1000000}) {
            due(upper.mod(BigInteger.valueOf(m)).intValue(), () -> x.rest(0, m));
            due(lower.mod(BigInteger.valueOf(m)).intValue(), () -> x.rest(1, m));
        }
    }

    private static void flow() {
        promise = "14 flow";
        UseOdds x = forked();
        for (int none : new int[] {-1, 4, LOW, HIGH}) {
            bad(() -> x.flow(none));
        }
        due(40, () -> x.flow(2));
        due(70, () -> x.flow(3));
        x.taps(2, 1, 1);
        due(47, () -> x.flow(2));
        due(70, () -> x.flow(3));
        share(x, 1, 1);
        due(0, () -> x.flow(2));
        share(x, 0, 1);
        due(157, () -> x.flow(0));
        x.gone(3, 0, 8);
        due(77, () -> x.flow(0));
        due(0, () -> x.flow(3));
        UseOdds most = new UseOdds();
        most.pipe(-1, 1);
        for (int i = 0; i < 8; i++) {
            most.kind(10000, 999, 1000);
            most.taps(0, i, 60);
        }
        due(4800000, () -> most.flow(0));
    }

    private static void size() {
        promise = "15 size";
        UseOdds x = forked();
        for (int none : new int[] {-1, 4, LOW, HIGH}) {
            bad(() -> x.size(none));
        }
        due(-1, () -> x.size(2));
        x.entry(39, 1, 1);
        due(-1, () -> x.size(2));
        x.entry(40, 1, 9);
        due(1, () -> x.size(2));
        x.entry(1000, 1, 9);
        due(1, () -> x.size(2));
        due(2, () -> x.size(3));
        x.entry(500, 2, 8);
        due(3, () -> x.size(2));
        due(3, () -> x.size(3));
        x.entry(41, 3, 8);
        due(3, () -> x.size(2));
        share(x, 1, 1);
        due(0, () -> x.size(3));
    }

    private static void cost() {
        promise = "16 cost";
        UseOdds x = new UseOdds();
        due(0, () -> x.cost());
        x.entry(10, 1, 3);
        due(0, () -> x.cost());
        x.kind(10, 1, 2);
        x.pipe(-1, 100);
        due(300, () -> x.cost());
        x.pipe(0, 7);
        due(321, () -> x.cost());
        x.taps(1, 0, 2);
        due(-1, () -> x.cost());
        x.entry(20, 1, 5);
        due(535, () -> x.cost());
        x.gone(1, 0, 1);
        x.taps(0, 0, 1);
        due(521, () -> x.cost());
        x.taps(0, 0, 1);
        due(-1, () -> x.cost());
        UseOdds most = new UseOdds();
        most.entry(1, 1, 10000);
        for (int i = 0; i < 20; i++) {
            most.pipe(i - 1, 1000);
        }
        due(200000000, () -> most.cost());
    }

    private static void loss() {
        promise = "17 loss";
        UseOdds x = forked();
        for (int none : new int[] {-1, 4, LOW, HIGH}) {
            bad(() -> x.loss(none));
        }
        due(-1, () -> x.loss(2));
        x.entry(69, 3, 2);
        due(177, () -> x.loss(2));
        due(-1, () -> x.loss(3));
        x.entry(40, 7, 1);
        due(13, () -> x.loss(2));
        share(x, 1, 1);
        due(0, () -> x.loss(2));
        UseOdds most = new UseOdds();
        most.pipe(-1, 1000);
        most.entry(1000000, 1, 1);
        most.kind(10000, 1, 2);
        most.kind(10000, 1, 2);
        share(most, 0, 1);
        most.taps(0, 0, 60);
        most.taps(0, 1, 40);
        due(1000000000000000L, () -> most.loss(0));
        due(-999999999999999L, () -> most.pressure(0, 1));
        most.taps(0, 1, 1);
        due(-1, () -> most.loss(0));
    }

    private static void pressure() {
        promise = "18 pressure";
        UseOdds x = forked();
        state(() -> x.pressure(2, 0));
        x.entry(40, 10, 1);
        // Pipe 2 has a size, pipe 1 on its way has none.
        due(4, () -> x.loss(2));
        state(() -> x.pressure(2, 100));
        for (int none : new int[] {-1, 4, LOW, HIGH}) {
            bad(() -> x.pressure(none, 100));
        }
        for (long head : new long[] {-1, 1000000000001L, Long.MIN_VALUE, Long.MAX_VALUE}) {
            bad(() -> x.pressure(2, head));
        }
        x.entry(1000, 5, 2);
        long first = x.loss(0);
        long second = x.loss(1);
        due(1000000000000L - first, () -> x.pressure(0, 1000000000000L));
        due(5000 - first - second, () -> x.pressure(1, 5000));
        due(-4 - first - second, () -> x.pressure(2, 0));
        due(1 - first - x.loss(3), () -> x.pressure(3, 1));
        for (long head : new long[] {-1, 1000000000001L}) {
            bad(() -> x.pressure(2, head));
        }
        pressureBelowTheRoot();
    }

    /** The root carries all taps: if a pipe beside the way is too full, so is the root. */
    private static void pressureBelowTheRoot() {
        UseOdds x = new UseOdds();
        x.kind(10, 1, 2);
        x.pipe(-1, 1);
        x.pipe(0, 1);
        x.pipe(0, 1);
        x.entry(100, 1, 1);
        x.taps(1, 0, 11);
        share(x, 0, 1);
        state(() -> x.pressure(0, 5));
        state(() -> x.pressure(1, 5));
        state(() -> x.pressure(2, 5));
        due(0, () -> x.loss(2));
        x.gone(1, 0, 1);
        due(-9995, () -> x.pressure(0, 5));
        due(-19995, () -> x.pressure(1, 5));
        due(-9995, () -> x.pressure(2, 5));
    }

    private static void farthest() {
        promise = "19 farthest";
        UseOdds x = new UseOdds();
        state(() -> x.farthest());
        x.kind(10, 1, 2);
        x.entry(100, 1, 1);
        state(() -> x.farthest());
        share(x, 0, 1);
        for (int i = 0; i < 4; i++) {
            x.pipe(i == 0 ? -1 : 0, 10);
        }
        // Without any loss all are alike.
        due(0, () -> x.farthest());
        x.taps(2, 0, 1);
        due(2, () -> x.farthest());
        x.taps(3, 0, 1);
        due(2, () -> x.farthest());
        x.taps(1, 0, 1);
        due(1, () -> x.farthest());
        x.taps(3, 0, 1);
        due(3, () -> x.farthest());
        due(4, () -> x.pipe(2, 40));
        due(3, () -> x.farthest());
        x.taps(4, 0, 1);
        due(4, () -> x.farthest());
        x.taps(0, 0, 6);
        state(() -> x.farthest());
        x.gone(0, 0, 6);
        due(4, () -> x.farthest());
        x.gone(4, 0, 1);
        due(5, () -> x.pipe(3, 1));
        due(3, () -> x.farthest());
        farthestWithoutList();
        farthestOfMost();
    }

    private static void farthestWithoutList() {
        UseOdds x = new UseOdds();
        x.pipe(-1, 1);
        state(() -> x.farthest());
        x.entry(1, 1, 1);
        due(0, () -> x.farthest());
    }

    private static void farthestOfMost() {
        UseOdds x = new UseOdds();
        x.kind(1, 1, 2);
        x.entry(1, 1, 1);
        for (int i = 0; i < 20; i++) {
            x.pipe(i - 1, 1000);
        }
        due(0, () -> x.farthest());
        x.taps(19, 0, 1);
        due(19, () -> x.farthest());
        due(-20000, () -> x.pressure(19, 0));
        x.gone(19, 0, 1);
        x.taps(18, 0, 1);
        due(18, () -> x.farthest());
    }

    /** Pipes 1 and 3 hang on pipe 0, pipe 2 on pipe 1; 15 taps with odds 1 / 2, none with 1 / 3. */
    private static UseOdds forked() {
        UseOdds x = new UseOdds();
        x.kind(10, 1, 2);
        x.kind(7, 1, 3);
        x.pipe(-1, 5);
        x.pipe(0, 2);
        x.pipe(1, 3);
        x.pipe(0, 9);
        x.taps(0, 0, 1);
        x.taps(1, 0, 2);
        x.taps(2, 0, 4);
        x.taps(3, 0, 8);
        return x;
    }

    private static long share(UseOdds x, int above, int below) {
        x.share(above, below);
        return 0;
    }

    private static void paper(
            UseOdds x, int pipe, int kind, int k, boolean more, String upper, String lower) {
        due(upper.length() + lower.length(), () -> x.write(pipe, kind, k, more));
        reads(x, upper, lower);
    }

    private static void reads(UseOdds x, String upper, String lower) {
        String[] numbers = {upper, lower};
        for (int which = 0; which < 2; which++) {
            int number = which;
            due(numbers[which].length(), () -> x.digits(number));
            // Not more than some 40 digits, for an object is used for 512 calls only.
            int step = 1 + numbers[which].length() / 40;
            for (int i = 0; i < numbers[which].length(); i += step) {
                int place = i;
                due(numbers[which].charAt(i) - '0', () -> x.digit(number, place));
            }
        }
    }

    private static void due(long want, Call call) {
        look(Long.toString(want), call);
    }

    private static void bad(Call call) {
        look("throws.IllegalArgumentException", call);
    }

    private static void state(Call call) {
        look("throws.IllegalStateException", call);
    }

    private static void look(String want, Call call) {
        String got;
        try {
            got = Long.toString(call.answer());
        } catch (RuntimeException e) {
            got = "throws." + e.getClass().getSimpleName();
        }
        checks++;
        if (!got.equals(want)) {
            wrong++;
            StackTraceElement[] trace = new Throwable().getStackTrace();
            StringBuilder where = new StringBuilder();
            for (int i = 2; i < trace.length; i++) {
                where.append(' ').append(trace[i].getLineNumber());
            }
            System.out.println("promise " + promise + ", lines" + where + ": answered " + got
                    + ", due is " + want);
        }
    }
}

import java.math.BigInteger;
import java.util.ArrayList;
import java.util.Arrays;
import java.util.List;

/**
 * Each sentence of the document that names a boundary case, with a test of its own: the last value
 * that is allowed and the first that is not, nothing there yet and all places taken, refused calls.
 *
 * <p>Each run of calls is also made on a second object without the calls that are refused, and both
 * objects are then asked for all that they tell: a call that throws changes nothing.
 */
public final class EdgeTest {
    private static final int NONE = -1;
    private static final long LOW = Integer.MIN_VALUE;
    private static final long HIGH = Integer.MAX_VALUE;
    private static final long MAX_HEAD = 1000000000000L;
    private static final int MAX_CALLS = 512;
    private static final int JUST = 0;
    private static final int MORE = 1;

    private static int edges = 0;
    private static int checks = 0;
    private static int wrong = 0;

    public static void main(String[] args) {
        whatItIs();
        termsOfKinds();
        termsOfPipes();
        termsOfOdds();
        termsOfTheShare();
        termsOfTheList();
        termsOfPressure();
        termsOfExceptions();
        promises1To3();
        promises4To7();
        promises8To13();
        promises14To16();
        promises17To19();
        System.out.println(edges + " edges, " + checks + " checks, " + wrong + " wrong");
        if (wrong != 0) {
            System.exit(1);
        }
    }

    private static void termsOfKinds() {
        kindsAre0To7();
        flowIs1To10000();
        aIsAbove0AndBelowB();
        bIsAtMost1000();
        whateverOthersAre();
    }

    private static void termsOfPipes() {
        pipesAre0To19();
        pipeHangsOnAnEarlierOne();
        lengthIs1To1000();
        pipeCarriesAllThatHangOnIt();
        sixtyOfAKindInAll();
    }

    private static void termsOfOdds() {
        oddsOfJustK();
        oddsOfMoreThanK();
        lowestTerms();
        zeroIs0Over1();
    }

    private static void termsOfTheShare() {
        countIsTheLeastNotAboveTheShare();
        flowIsTheSumOverAllKinds();
    }

    private static void termsOfTheList() {
        entriesAre0To19();
        capacityIs1To1000000();
        widthIs1To1000();
        costIs1To10000();
        sizeHasTheLeastCost();
        sizeHasTheCapacity();
        sizeOfSeveralTheFirst();
    }

    private static void termsOfPressure() {
        lossIsRoundedDown();
        pressureIsTheHeadLessLossesUpToTheRoot();
    }

    private static void termsOfExceptions() {
        noSuchPipe();
        noSuchKind();
        numbersFarOutOfBounds();
        theOneNamedFirst();
        refusedOnANewObject();
        refusedOnASmallHouse();
        refusedOnAFullHouse();
        refusedWithoutASize();
        noneIsMinusOne();
    }

    private static void promises1To3() {
        newObjectHasNoKinds();
        newObjectHasNoPipes();
        newObjectHasAnEmptyList();
        newObjectHasTheShareOneHundredth();
        newObjectHasNoPaper();
        kindAnswersItsNumber();
        kindThereAre8();
        pipeTheFirstOnNone();
        pipeAnswersItsNumber();
        pipeThereAre20();
    }

    private static void promises4To7() {
        tapsN1To60();
        tapsAnswersHowManyAreAtIt();
        tapsMoreThan60InAll();
        goneNBelow1();
        goneThereAreFewer();
        goneAnswersHowManyAreLeft();
        shareAboveIs0ToBelow();
        shareBelowIs1To1000000();
        entryAnswersItsNumber();
        entryThereAre20();
    }

    private static void promises8To13() {
        manyOfNoneAndOfAll();
        countOfNoneAndOfAll();
        writeKIs0ToHowManyItCarries();
        writeAnswersAllDigits();
        writeReplacesThePaper();
        digitsWhichIs0Or1();
        digits0WithoutAPaper();
        digitHighestFirst();
        digitThereIsNoneSuch();
        restMIs2To1000000();
        restWhichIs0Or1();
        restThereIsNoPaper();
    }

    private static void promises14To16() {
        flowOfNoneAndOfAll();
        sizeNoneIfNoEntryHasTheCapacity();
        costOfAllPipes();
        costNoneIfOneHasNoSize();
    }

    private static void promises17To19() {
        lossNoneWithoutASize();
        pressureHeadIs0To10ToThe12();
        pressureAPipeOnTheWayHasNoSize();
        farthestOfSeveralTheFirst();
        farthestHasTheLeastPressure();
        farthestThereIsNoPipe();
        farthestOneHasNoSize();
    }

    // ---- What it is

    private static void whatItIs() {
        Run taps = edge("An object is used for at most 512 calls after it has been made");
        taps.due(0, "kind", 1, 1, 2).due(0, "pipe", NONE, 1);
        for (int i = 0; i < 255; i++) {
            taps.due(60, "taps", 0, 0, 60).due(0, "gone", 0, 0, 60);
        }
        taps.end();
        Run papers = taps.anew();
        papers.due(0, "kind", 1, 999, 1000).due(0, "pipe", NONE, 1).due(60, "taps", 0, 0, 60);
        for (int i = 0; i < 254; i++) {
            papers.due(361, "write", 0, 0, 60, JUST).due(2, "write", 0, 0, 60, MORE);
        }
        papers.due(1, "digits", 0).end();
        Run refused = taps.anew();
        for (int i = 0; i < 511; i++) {
            refused.bad("kind", 0, 1, 2);
        }
        refused.due(0, "kind", 1, 1, 2).end();
    }

    // ---- Terms: kinds

    private static void kindsAre0To7() {
        Run run = edge("KINDS of taps are 0 .. 7");
        run.due(0, "pipe", NONE, 1);
        for (int kind = 0; kind < 8; kind++) {
            run.bad("many", 0, kind).due(kind, "kind", 1, 1, 2).due(0, "many", 0, kind);
        }
        run.bad("many", 0, 8).bad("many", 0, -1);
        run.state("kind", 1, 1, 2).bad("many", 0, 8).end();
    }

    private static void flowIs1To10000() {
        Run run = edge("each with a FLOW (1 .. 10000)");
        run.bad("kind", -1, 1, 2).bad("kind", 0, 1, 2).due(0, "kind", 1, 1, 2);
        run.bad("kind", 10001, 1, 2).due(1, "kind", 10000, 1, 2);
        run.due(0, "pipe", NONE, 1).done("share", 0, 1);
        run.due(1, "taps", 0, 0, 1).due(1, "flow", 0);
        run.due(1, "taps", 0, 1, 1).due(10001, "flow", 0).end();
    }

    private static void aIsAbove0AndBelowB() {
        Run run = edge("and ODDS a / b (0 < a < b");
        run.bad("kind", 1, -1, 7).bad("kind", 1, 0, 7).due(0, "kind", 1, 1, 7);
        run.due(1, "kind", 1, 6, 7).bad("kind", 1, 7, 7).bad("kind", 1, 8, 7);
        run.due(2, "kind", 1, 1, 2).bad("kind", 1, 1, 1).bad("kind", 1, 0, 1);
        run.bad("kind", 1, 0, 0).bad("kind", 1, -2, -1).bad("kind", 1, -1, 0);
        run.bad("kind", 1, 1000, 1000).due(3, "kind", 1, 999, 1000);
        run.due(0, "pipe", NONE, 1);
        String[] uppers = {"1", "6", "1", "999"};
        String[] lowers = {"7", "7", "2", "1000"};
        for (int kind = 0; kind < 4; kind++) {
            run.due(1, "taps", 0, kind, 1);
            run.paper(kind, 1, JUST, uppers[kind], lowers[kind]);
        }
        run.end();
    }

    private static void bIsAtMost1000() {
        Run run = edge("b at most 1000)");
        run.bad("kind", 1, 1, 1001).bad("kind", 1, 1000, 1001).bad("kind", 1, 1, 2000);
        run.due(0, "kind", 1, 1, 1000).due(1, "kind", 1, 999, 1000).due(2, "kind", 1, 1, 999);
        run.due(0, "pipe", NONE, 1);
        run.due(1, "taps", 0, 0, 1).paper(0, 1, JUST, "1", "1000");
        run.due(1, "taps", 0, 2, 1).paper(2, 1, JUST, "1", "999").end();
    }

    private static void whateverOthersAre() {
        Run run = edge("each tap of it is on with these odds, whatever others are.");
        run.due(0, "kind", 1, 1, 3).due(1, "kind", 1, 1, 2).due(2, "kind", 1, 1, 3);
        run.due(0, "pipe", NONE, 1).due(1, "pipe", 0, 1);
        run.due(1, "taps", 0, 0, 1).paper(0, 1, JUST, "1", "3");
        run.due(60, "taps", 0, 1, 60).due(60, "taps", 1, 2, 60);
        run.paper(0, 1, JUST, "1", "3").due(1, "count", 0, 0);
        run.due(1, "taps", 1, 0, 1).paper(0, 2, JUST, "1", "9").end();
    }

    // ---- Terms: pipes

    private static void pipesAre0To19() {
        Run run = edge("PIPES are 0 .. 19");
        for (int pipe = 0; pipe < 20; pipe++) {
            run.bad("flow", pipe).due(pipe, "pipe", pipe == 0 ? NONE : 0, 1).due(0, "flow", pipe);
        }
        run.bad("flow", 20).bad("flow", -1);
        run.state("pipe", 0, 1).bad("flow", 20).end();
    }

    private static void pipeHangsOnAnEarlierOne() {
        Run run = edge("pipe 0 is the ROOT, each other one hangs on an earlier one");
        run.bad("pipe", 0, 1).bad("pipe", 1, 1).due(0, "pipe", NONE, 1);
        for (int pipe = 1; pipe < 20; pipe++) {
            run.bad("pipe", NONE, 1).bad("pipe", pipe, 1).bad("pipe", pipe + 1, 1);
            run.due(pipe, "pipe", pipe % 2 == 0 ? 0 : pipe - 1, 1);
        }
        run.bad("pipe", NONE, 1).bad("pipe", 20, 1).state("pipe", 19, 1).state("pipe", 0, 1);
        run.due(0, "kind", 1, 1, 2).due(1, "taps", 19, 0, 1);
        run.due(1, "many", 0, 0).due(1, "many", 18, 0).due(0, "many", 17, 0).end();
    }

    private static void lengthIs1To1000() {
        Run run = edge("each has a LENGTH (1 .. 1000).");
        run.due(0, "entry", 1, 1, 1);
        run.bad("pipe", NONE, -1).bad("pipe", NONE, 0).bad("pipe", NONE, 1001).due(0, "cost");
        run.due(0, "pipe", NONE, 1000).due(1000, "cost");
        run.bad("pipe", 0, -1).bad("pipe", 0, 0).bad("pipe", 0, 1001).due(1000, "cost");
        run.due(1, "pipe", 0, 1).due(1001, "cost").due(2, "pipe", 0, 1000).due(2001, "cost").end();
        run.anew().due(0, "pipe", NONE, 1).due(0, "entry", 1, 1, 1).due(1, "cost").end();
    }

    private static void pipeCarriesAllThatHangOnIt() {
        Run chain = edge("A pipe CARRIES the taps at it and at all that hang on it, "
                + "straight or not");
        chain.due(0, "kind", 1, 1, 2);
        for (int pipe = 0; pipe < 20; pipe++) {
            chain.due(pipe, "pipe", pipe - 1, 1);
        }
        chain.due(3, "taps", 19, 0, 3).due(1, "taps", 0, 0, 1).due(2, "taps", 18, 0, 2);
        for (int pipe = 0; pipe < 20; pipe++) {
            chain.due(pipe == 0 ? 6 : pipe == 19 ? 3 : 5, "many", pipe, 0);
        }
        chain.end();
        Run fork = chain.anew();
        fork.due(0, "kind", 1, 1, 2).due(0, "pipe", NONE, 1).due(1, "pipe", 0, 1);
        fork.due(2, "pipe", 0, 1).due(3, "pipe", 1, 1);
        for (int pipe = 0; pipe < 4; pipe++) {
            fork.due(0, "many", pipe, 0);
        }
        fork.due(1, "taps", 2, 0, 1).due(2, "taps", 3, 0, 2);
        fork.due(3, "many", 0, 0).due(2, "many", 1, 0).due(1, "many", 2, 0).due(2, "many", 3, 0);
        // One that comes later is carried too.
        fork.due(4, "pipe", 2, 1).due(0, "many", 4, 0).due(4, "taps", 4, 0, 4);
        fork.due(7, "many", 0, 0).due(2, "many", 1, 0).due(5, "many", 2, 0).end();
    }

    private static void sixtyOfAKindInAll() {
        Run run = edge("of a kind there are 60 in all at most.");
        run.due(0, "kind", 1, 1, 2).due(1, "kind", 1, 1, 2);
        run.due(0, "pipe", NONE, 1).due(1, "pipe", 0, 1).due(2, "pipe", 0, 1);
        run.due(30, "taps", 1, 0, 30).due(29, "taps", 2, 0, 29);
        run.state("taps", 0, 0, 2).due(59, "many", 0, 0).due(1, "taps", 0, 0, 1);
        for (int pipe = 0; pipe < 3; pipe++) {
            run.state("taps", pipe, 0, 1);
        }
        run.due(60, "many", 0, 0).due(60, "taps", 2, 1, 60).state("taps", 1, 1, 1);
        run.due(28, "gone", 2, 0, 1).due(31, "taps", 1, 0, 1).state("taps", 2, 0, 1).end();
        Run all = run.anew();
        all.due(0, "pipe", NONE, 1);
        for (int kind = 0; kind < 8; kind++) {
            all.due(kind, "kind", 1, 1, 2).due(60, "taps", 0, kind, 60);
            all.state("taps", 0, kind, 1).due(60, "many", 0, kind);
        }
        all.end();
    }

    // ---- Terms: odds

    private static void oddsOfJustK() {
        Run run = edge("that just k are on are C / b^n, C being (n over k) a^k (b - a)^(n - k)");
        run.due(0, "kind", 1, 2, 5).due(0, "pipe", NONE, 1);
        run.paper(0, 0, JUST, "1", "1");
        run.due(1, "taps", 0, 0, 1).paper(0, 0, JUST, "3", "5").paper(0, 1, JUST, "2", "5");
        run.due(3, "taps", 0, 0, 2);
        run.paper(0, 0, JUST, "27", "125").paper(0, 1, JUST, "54", "125");
        run.paper(0, 2, JUST, "36", "125").paper(0, 3, JUST, "8", "125");
        run.due(60, "taps", 0, 0, 57);
        run.paper(0, 0, JUST, power(3, 60), power(5, 60));
        run.paper(0, 60, JUST, power(2, 60), power(5, 60)).end();
        Run longest = run.anew();
        longest.due(0, "kind", 1, 999, 1000).due(0, "pipe", NONE, 1).due(60, "taps", 0, 0, 60);
        longest.paper(0, 60, JUST, power(999, 60), power(1000, 60)).end();
        Run shortest = run.anew();
        shortest.due(0, "kind", 1, 999, 1000).due(0, "pipe", NONE, 1).due(60, "taps", 0, 0, 60);
        shortest.paper(0, 0, JUST, "1", power(1000, 60)).end();
    }

    private static void oddsOfMoreThanK() {
        Run run = edge("that more than k are, the sum of these for k + 1 .. n.");
        run.due(0, "kind", 1, 2, 5).due(0, "pipe", NONE, 1);
        run.paper(0, 0, MORE, "0", "1");
        run.due(1, "taps", 0, 0, 1).paper(0, 0, MORE, "2", "5").paper(0, 1, MORE, "0", "1");
        run.due(3, "taps", 0, 0, 2);
        run.paper(0, 0, MORE, "98", "125").paper(0, 1, MORE, "44", "125");
        run.paper(0, 2, MORE, "8", "125").paper(0, 3, MORE, "0", "1");
        run.due(60, "taps", 0, 0, 57);
        run.paper(0, 59, MORE, power(2, 60), power(5, 60));
        BigInteger some = new BigInteger(power(5, 60)).subtract(new BigInteger(power(3, 60)));
        run.paper(0, 0, MORE, some.toString(), power(5, 60)).paper(0, 60, MORE, "0", "1").end();
        Run longest = run.anew();
        longest.due(0, "kind", 1, 999, 1000).due(0, "pipe", NONE, 1).due(60, "taps", 0, 0, 60);
        BigInteger most = new BigInteger(power(1000, 60)).subtract(BigInteger.ONE);
        longest.paper(0, 0, MORE, most.toString(), power(1000, 60)).end();
        sumsThatFillAGroupOfDigits(run);
    }

    /** The first sum gets a 13th digit; in the others twelve digits become 0 and carry 1. */
    private static void sumsThatFillAGroupOfDigits(Run first) {
        int[][] cases = {{1, 2, 40, 15}, {10, 313, 16, 8}, {10, 563, 16, 8}, {5, 438, 42, 19},
            {745, 968, 49, 42}};
        for (int[] each : cases) {
            BigInteger upper = more(each[0], each[1], each[2], each[3]);
            BigInteger lower = BigInteger.valueOf(each[1]).pow(each[2]);
            BigInteger common = upper.gcd(lower);
            Run run = first.anew();
            run.due(0, "kind", 1, each[0], each[1]).due(0, "pipe", NONE, 1);
            run.due(each[2], "taps", 0, 0, each[2]);
            run.paper(0, each[3], MORE, upper.divide(common).toString(),
                    lower.divide(common).toString());
            run.end();
        }
    }

    private static void lowestTerms() {
        Run run = edge("In LOWEST TERMS");
        run.due(0, "kind", 1, 500, 1000).due(1, "kind", 1, 6, 9).due(2, "kind", 1, 1, 6);
        run.due(3, "kind", 1, 1, 3).due(0, "pipe", NONE, 1);
        run.due(1, "taps", 0, 0, 1).paper(0, 1, JUST, "1", "2");
        run.due(2, "taps", 0, 0, 1).paper(0, 1, JUST, "1", "2").paper(0, 0, MORE, "3", "4");
        run.due(4, "taps", 0, 0, 2).paper(0, 2, JUST, "3", "8");
        run.due(16, "taps", 0, 0, 12).paper(0, 8, JUST, "6435", "32768");
        run.due(60, "taps", 0, 0, 44);
        run.paper(0, 1, JUST, "15", power(2, 58)).paper(0, 0, JUST, "1", power(2, 60));
        run.due(3, "taps", 0, 1, 3).paper(1, 1, JUST, "2", "9").paper(1, 1, MORE, "20", "27");
        run.due(2, "taps", 0, 2, 2).paper(2, 1, JUST, "5", "18").paper(2, 0, MORE, "11", "36");
        run.due(2, "taps", 0, 3, 2).paper(3, 1, JUST, "4", "9").paper(3, 0, MORE, "5", "9").end();
        // The lower number can fall to a single digit, and to what is left of one prime alone.
        Run one = run.anew();
        one.due(0, "kind", 1, 999, 1000).due(0, "pipe", NONE, 1).due(2, "taps", 0, 0, 2);
        one.paper(0, 1, JUST, "999", "500000").paper(0, 0, MORE, "999999", "1000000").end();
    }

    private static void zeroIs0Over1() {
        Run run = edge("0 is 0 / 1.");
        run.due(0, "kind", 1, 1, 2).due(1, "kind", 1, 999, 1000).due(2, "kind", 1, 1, 997);
        run.due(0, "pipe", NONE, 1);
        for (int kind = 0; kind < 3; kind++) {
            run.paper(kind, 0, MORE, "0", "1");
            run.due(1, "taps", 0, kind, 1).paper(kind, 1, MORE, "0", "1");
            run.due(60, "taps", 0, kind, 59).paper(kind, 60, MORE, "0", "1");
            run.due(0, "rest", 0, 2).due(1, "rest", 1, 2);
        }
        run.end();
    }

    // ---- Terms: the share

    private static void countIsTheLeastNotAboveTheShare() {
        Run run = edge("The COUNT of a pipe and kind is the least k with which the odds that more "
                + "than k are on are not above the share.");
        run.due(0, "kind", 1, 1, 2).due(0, "pipe", NONE, 1).done("share", 0, 1);
        run.due(0, "count", 0, 0).due(4, "taps", 0, 0, 4);
        // More than 3, 2, 1, 0 of the four are on with odds 1, 5, 11, 15 / 16.
        int[] parts = {1, 5, 11, 15};
        for (int i = 0; i < 4; i++) {
            int k = 3 - i;
            run.done("share", parts[i], 16).due(k, "count", 0, 0);
            run.done("share", parts[i] * 62500L, 1000000).due(k, "count", 0, 0);
            run.done("share", parts[i] * 62500L - 1, 1000000).due(k + 1, "count", 0, 0);
            run.done("share", parts[i] * 62500L + 1, 1000000).due(k, "count", 0, 0);
        }
        run.done("share", 0, 1).due(4, "count", 0, 0).done("share", 0, 1000000);
        run.due(4, "count", 0, 0).done("share", 1, 1).due(0, "count", 0, 0);
        run.done("share", 1000000, 1000000).due(0, "count", 0, 0).end();
        Run most = run.anew();
        most.due(0, "kind", 1, 999, 1000).due(1, "kind", 1, 1, 1000).due(0, "pipe", NONE, 1);
        most.due(60, "taps", 0, 0, 60).due(60, "taps", 0, 1, 60);
        most.done("share", 0, 1).due(60, "count", 0, 0).due(60, "count", 0, 1);
        most.done("share", 1, 1).due(0, "count", 0, 0).due(0, "count", 0, 1);
        most.done("share", 999999, 1000000).due(57, "count", 0, 0).due(0, "count", 0, 1);
        most.done("share", 1, 1000000).due(60, "count", 0, 0).due(3, "count", 0, 1).end();
    }

    private static void flowIsTheSumOverAllKinds() {
        Run run = edge("The FLOW of a pipe is the sum over all kinds of COUNT times the "
                + "kind's flow.");
        run.due(0, "pipe", NONE, 1).due(0, "flow", 0).done("share", 0, 1);
        long sum = 0;
        for (int kind = 0; kind < 8; kind++) {
            run.due(kind, "kind", 1L << kind, 1, 2).due(sum, "flow", 0);
            run.due(kind + 1, "taps", 0, kind, kind + 1);
            sum += (kind + 1L) << kind;
            run.due(sum, "flow", 0);
        }
        run.done("share", 1, 1).due(0, "flow", 0).end();
    }

    // ---- Terms: the list

    private static void entriesAre0To19() {
        Run run = edge("THE LIST has ENTRIES 0 .. 19");
        run.due(0, "pipe", NONE, 1).due(NONE, "size", 0);
        for (int entry = 0; entry < 20; entry++) {
            // Each is cheaper than those before it.
            run.due(entry, "entry", 1, 1, 100 - entry).due(entry, "size", 0);
            run.due(100 - entry, "cost");
        }
        run.state("entry", 1, 1, 1).due(19, "size", 0).due(81, "cost").end();
    }

    private static void capacityIs1To1000000() {
        Run run = edge("each with a CAPACITY (1 .. 1000000)");
        run.due(0, "pipe", NONE, 1);
        for (int kind = 0; kind < 2; kind++) {
            run.due(kind, "kind", 10000, 1, 2);
        }
        run.due(2, "kind", 1, 1, 2).done("share", 0, 1);
        run.bad("entry", -1, 1, 1).bad("entry", 0, 1, 1).bad("entry", 1000001, 1, 1);
        run.due(NONE, "size", 0).due(0, "entry", 1, 1, 1).due(0, "size", 0);
        run.due(1, "taps", 0, 2, 1).due(0, "size", 0).due(2, "taps", 0, 2, 1).due(NONE, "size", 0);
        run.due(1, "entry", 1000000, 1, 1).due(1, "size", 0).due(0, "gone", 0, 2, 2);
        run.due(60, "taps", 0, 0, 60).due(40, "taps", 0, 1, 40);
        run.due(1000000, "flow", 0).due(1, "size", 0);
        run.due(1, "taps", 0, 2, 1).due(1000001, "flow", 0).due(NONE, "size", 0).end();
    }

    private static void widthIs1To1000() {
        Run run = edge("a WIDTH (1 .. 1000)");
        run.due(0, "pipe", NONE, 1000).due(0, "kind", 1000, 1, 2).done("share", 0, 1);
        run.due(1, "taps", 0, 0, 1);
        run.bad("entry", 1000, -1, 1).bad("entry", 1000, 0, 1).bad("entry", 1000, 1001, 1);
        run.due(NONE, "loss", 0);
        run.due(0, "entry", 1000, 1, 2).due(1000000000, "loss", 0);
        run.due(1, "entry", 1000, 1000, 1).due(1, "loss", 0).end();
    }

    private static void costIs1To10000() {
        Run run = edge("and what a length of 1 COSTS (1 .. 10000).");
        run.due(0, "pipe", NONE, 1);
        run.bad("entry", 1, 1, -1).bad("entry", 1, 1, 0).bad("entry", 1, 1, 10001);
        run.due(NONE, "cost").due(0, "entry", 1, 1, 10000).due(10000, "cost");
        run.due(1, "entry", 1, 1, 1).due(1, "cost").end();
    }

    private static void sizeHasTheLeastCost() {
        Run run = edge("The SIZE of a pipe is the entry with the least cost");
        run.due(0, "pipe", NONE, 1).due(0, "entry", 1, 1, 10).due(0, "size", 0);
        run.due(1, "entry", 1000000, 1000, 11).due(0, "size", 0);
        run.due(2, "entry", 2, 1, 9).due(2, "size", 0);
        run.due(3, "entry", 1, 1000, 10).due(2, "size", 0);
        run.due(4, "entry", 1, 1, 1).due(4, "size", 0);
        run.due(5, "entry", 1, 1, 2).due(4, "size", 0).end();
    }

    private static void sizeHasTheCapacity() {
        Run run = edge("whose capacity is not below the pipe's flow");
        run.due(0, "pipe", NONE, 1).due(0, "kind", 50, 1, 2).done("share", 0, 1);
        run.due(1, "taps", 0, 0, 1).due(0, "entry", 49, 1, 1).due(NONE, "size", 0);
        run.due(1, "entry", 51, 1, 3).due(1, "size", 0).due(2, "entry", 50, 1, 2);
        run.due(2, "size", 0).due(0, "gone", 0, 0, 1).due(0, "size", 0);
        run.due(2, "taps", 0, 0, 2).due(NONE, "size", 0);
        run.due(3, "entry", 100, 1, 10000).due(3, "size", 0).end();
    }

    private static void sizeOfSeveralTheFirst() {
        Run run = edge("of several the first.");
        run.due(0, "pipe", NONE, 1).due(0, "kind", 5, 1, 2).done("share", 0, 1);
        run.due(1, "taps", 0, 0, 1);
        run.due(0, "entry", 4, 9, 7).due(1, "entry", 6, 1, 7).due(2, "entry", 5, 2, 7);
        run.due(3, "entry", 7, 3, 7).due(1, "size", 0).due(25, "loss", 0);
        run.due(0, "gone", 0, 0, 1).due(0, "size", 0).end();
    }

    // ---- Terms: pressure

    private static void lossIsRoundedDown() {
        Run run = edge("A pipe's LOSS is LENGTH times FLOW times FLOW / WIDTH^3, rounded down.");
        run.due(0, "pipe", NONE, 1).due(0, "kind", 1, 1, 2).done("share", 0, 1);
        run.due(0, "entry", 1000, 4, 9).due(0, "loss", 0);
        // 49 / 64, 64 / 64, 121 / 64, 144 / 64.
        run.due(7, "taps", 0, 0, 7).due(0, "loss", 0).due(8, "taps", 0, 0, 1).due(1, "loss", 0);
        run.due(11, "taps", 0, 0, 3).due(1, "loss", 0).due(12, "taps", 0, 0, 1).due(2, "loss", 0);
        // 63 / 64, 64 / 64, 127 / 64, 128 / 64.
        int[] lengths = {63, 64, 127, 128};
        for (int i = 0; i < 4; i++) {
            run.due(i + 1, "pipe", 0, lengths[i]).due(0, "loss", i + 1);
            run.due(1, "taps", i + 1, 0, 1).due(lengths[i] / 64, "loss", i + 1);
        }
        run.end();
        Run most = run.anew();
        most.due(0, "pipe", NONE, 1000).due(0, "kind", 10000, 1, 2).due(1, "kind", 10000, 1, 2);
        most.done("share", 0, 1).due(60, "taps", 0, 0, 60).due(40, "taps", 0, 1, 40);
        most.due(0, "entry", 1000000, 1, 3).due(1000000000000000L, "loss", 0);
        most.due(1, "entry", 1000000, 999, 2).due(1003006, "loss", 0);
        most.due(2, "entry", 1000000, 1000, 1).due(1000000, "loss", 0).end();
    }

    private static void pressureIsTheHeadLessLossesUpToTheRoot() {
        Run run = edge("The PRESSURE at a pipe is the head less the losses of it and all on which "
                + "it hangs, up to the root.");
        run.due(0, "kind", 1, 1, 2).due(0, "entry", 1, 1, 1).done("share", 0, 1);
        for (int pipe = 0; pipe < 20; pipe++) {
            run.due(pipe, "pipe", pipe - 1, 1000 - pipe);
            run.due(7, "pressure", pipe, 7);
        }
        run.due(1, "taps", 19, 0, 1);
        long lost = 0;
        for (int pipe = 0; pipe < 20; pipe++) {
            lost += 1000 - pipe;
            run.due(5 - lost, "pressure", pipe, 5);
        }
        run.end();
        Run fork = run.anew();
        fork.due(0, "kind", 10, 1, 2).due(0, "entry", 1000, 1, 1).done("share", 0, 1);
        fork.due(0, "pipe", NONE, 1).due(1, "pipe", 0, 2).due(2, "pipe", 0, 3).due(3, "pipe", 1, 4);
        fork.due(1, "taps", 2, 0, 1).due(1, "taps", 3, 0, 1);
        fork.due(600, "pressure", 0, 1000).due(400, "pressure", 1, 1000);
        fork.due(300, "pressure", 2, 1000).due(0, "pressure", 3, 1000).end();
        Run most = run.anew();
        most.due(0, "kind", 10000, 1, 2).due(1, "kind", 10000, 1, 2).done("share", 0, 1);
        most.due(0, "entry", 1000000, 1, 1);
        for (int pipe = 0; pipe < 20; pipe++) {
            most.due(pipe, "pipe", pipe - 1, 1000);
        }
        most.due(60, "taps", 19, 0, 60).due(40, "taps", 19, 1, 40);
        most.due(-20000000000000000L, "pressure", 19, 0);
        most.due(-19999000000000000L, "pressure", 19, MAX_HEAD).due(19, "farthest").end();
    }

    // ---- Terms: exceptions

    private static void noSuchPipe() {
        Run none = edge("In all calls illegal argument: .. there is no such .. pipe");
        none.due(0, "kind", 1, 1, 2);
        none.badPipe(0).badPipe(-1).badPipe(1).badPipe(19).end();
        Run some = none.anew();
        some.due(0, "kind", 1, 1, 2).due(0, "pipe", NONE, 1).due(1, "pipe", 0, 1);
        some.badPipe(2).badPipe(-1).badPipe(19).badPipe(20).badPipe(257).badPipe(65537);
        some.badPipe(LOW).badPipe(LOW + 1).badPipe(HIGH).end();
        Run all = none.anew();
        all.due(0, "kind", 1, 1, 2);
        for (int pipe = 0; pipe < 20; pipe++) {
            all.due(pipe, "pipe", pipe - 1, 1);
        }
        all.badPipe(20).badPipe(-1).due(1, "taps", 19, 0, 1).due(0, "gone", 19, 0, 1);
        all.due(0, "many", 19, 0).due(0, "count", 19, 0).due(2, "write", 19, 0, 0, JUST);
        all.due(0, "flow", 19).due(NONE, "size", 19).due(NONE, "loss", 19);
        all.due(0, "entry", 1, 1, 1).due(0, "pressure", 19, 0).end();
    }

    private static void noSuchKind() {
        Run none = edge("In all calls illegal argument: .. there is no such kind");
        none.due(0, "pipe", NONE, 1);
        none.badKind(0).badKind(-1).badKind(1).badKind(7).end();
        Run some = none.anew();
        some.due(0, "pipe", NONE, 1).due(0, "kind", 1, 1, 2).due(1, "kind", 1, 1, 2);
        some.badKind(2).badKind(-1).badKind(7).badKind(8).badKind(257).badKind(65537);
        some.badKind(LOW).badKind(LOW + 1).badKind(HIGH).end();
        Run all = none.anew();
        all.due(0, "pipe", NONE, 1);
        for (int kind = 0; kind < 8; kind++) {
            all.due(kind, "kind", 1, 1, 2);
        }
        all.badKind(8).badKind(-1).due(1, "taps", 0, 7, 1).due(0, "gone", 0, 7, 1);
        all.due(0, "many", 0, 7).due(0, "count", 0, 7).due(2, "write", 0, 7, 0, JUST).end();
    }

    /** The ends of int and long, and numbers that are within bounds in their lower bits alone. */
    private static void numbersFarOutOfBounds() {
        Run run = edge("In all calls illegal argument: a number is out of its bounds");
        run.smallHouse();
        for (long far : new long[] {LOW, LOW + 1, LOW + 50, HIGH, HIGH - 50, 16777217, -16777215}) {
            run.bad("kind", far, 1, 2).bad("kind", 1, far, 2).bad("kind", 1, 1, far);
            run.bad("pipe", far, 1).bad("pipe", 0, far);
            run.bad("taps", 0, 0, far).bad("gone", 2, 0, far);
            run.bad("share", far, 100).bad("share", 1, far);
            run.bad("entry", far, 1, 1).bad("entry", 1, far, 1).bad("entry", 1, 1, far);
            run.bad("write", 0, 0, far, JUST).bad("write", 0, 0, far, MORE);
            run.bad("digits", far).bad("digit", far, 0).bad("digit", 1, far);
            run.bad("rest", far, 2).bad("rest", 1, far);
        }
        run.bad("share", HIGH, HIGH).bad("share", LOW, LOW).bad("kind", 1, LOW, LOW);
        run.bad("pressure", 0, Long.MIN_VALUE).bad("pressure", 0, Long.MAX_VALUE);
        run.bad("pressure", 0, LOW).bad("pressure", 0, (1L << 62) + 5).end();
    }

    private static void theOneNamedFirst() {
        Run run = edge("Of several exceptions the one named first is thrown");
        run.fullHouse(10);
        run.state("kind", 1, 1, 2).bad("kind", 0, 1, 2).bad("kind", 10001, 1, 2);
        run.bad("kind", 1, 0, 2).bad("kind", 1, 2, 2).bad("kind", 1, 1, 1001);
        run.state("pipe", 19, 1).bad("pipe", 20, 1).bad("pipe", NONE, 1);
        run.bad("pipe", 0, 0).bad("pipe", 0, 1001);
        run.state("taps", 0, 0, 1).state("taps", 19, 0, 60).bad("taps", 0, 0, 0);
        run.bad("taps", 0, 0, 61).bad("taps", 20, 0, 1).bad("taps", 0, 8, 1);
        run.bad("taps", -1, 0, 60).bad("taps", 0, -1, 60).bad("taps", 0, 0, HIGH);
        run.state("entry", 1, 1, 1).bad("entry", 0, 1, 1).bad("entry", 1000001, 1, 1);
        run.bad("entry", 1, 0, 1).bad("entry", 1, 1001, 1).bad("entry", 1, 1, 0);
        run.bad("entry", 1, 1, 10001);
        run.state("rest", 0, 2).bad("rest", -1, 2).bad("rest", 2, 2).bad("rest", 0, 1);
        run.bad("rest", 1, 1000001);
        run.state("pressure", 0, 0).bad("pressure", -1, 0).bad("pressure", 20, 0);
        run.bad("pressure", 0, -1).bad("pressure", 0, MAX_HEAD + 1).end();
    }

    private static void refusedOnANewObject() {
        Run scene = edge("a call that throws changes nothing. (on a new object)");
        scene.bad("pipe", 0, 1).bad("pipe", NONE, 0).bad("pipe", NONE, 1001);
        scene.bad("taps", 0, 0, 1).bad("gone", 0, 0, 1).bad("many", 0, 0).bad("count", 0, 0);
        scene.bad("write", 0, 0, 0, JUST).bad("digits", 2).bad("digit", 0, 0).state("rest", 0, 2);
        scene.bad("flow", 0).bad("size", 0).bad("loss", 0).bad("pressure", 0, 0).state("farthest");
        scene.bad("share", 1, 50_000_000).bad("share", 2, 1).bad("kind", 1, 2, 2);
        scene.bad("entry", 1, 1, 0).endEachAlone(scene.anew());
    }

    private static void refusedOnASmallHouse() {
        Run scene = edge("a call that throws changes nothing. (on a house with some of all)");
        scene.bad("kind", 0, 1, 2).bad("kind", 10001, 1, 2).bad("kind", 1, 0, 2);
        scene.bad("kind", 1, 2, 2).bad("kind", 1, 1, 1001);
        scene.bad("pipe", NONE, 1).bad("pipe", 3, 1).bad("pipe", 0, 0).bad("pipe", 0, 1001);
        scene.bad("taps", 3, 0, 1).bad("taps", -1, 0, 1).bad("taps", 2, 2, 1).bad("taps", 2, -1, 1);
        scene.bad("taps", 2, 0, 0).bad("taps", 2, 0, -1).bad("taps", 2, 0, 61);
        scene.state("taps", 2, 0, 54).state("taps", 0, 0, 60);
        scene.bad("gone", 3, 0, 1).bad("gone", -1, 0, 1).bad("gone", 2, 2, 1).bad("gone", 2, -1, 1);
        scene.bad("gone", 2, 0, 0).bad("gone", 2, 0, -1).bad("gone", 2, 0, 5).bad("gone", 0, 0, 2);
        scene.bad("share", -1, 50).bad("share", 51, 50).bad("share", 0, 0).bad("share", 1, 0);
        scene.bad("share", 1, 1000001).bad("share", 50, -1).bad("share", 1000001, 1000001);
        scene.bad("entry", 0, 1, 1).bad("entry", 1000001, 1, 1).bad("entry", 1000, 0, 1);
        scene.bad("entry", 1000, 1001, 1).bad("entry", 1000, 1, 0).bad("entry", 1000, 1, 10001);
        scene.bad("many", 3, 0).bad("many", 0, 2).bad("count", 3, 0).bad("count", 0, 2);
        scene.bad("write", 3, 0, 0, JUST).bad("write", 0, 2, 0, JUST).bad("write", 2, 0, 5, JUST);
        scene.bad("write", 2, 0, 5, MORE).bad("write", 2, 0, -1, JUST).bad("write", 2, 0, -1, MORE);
        scene.bad("digits", -1).bad("digits", 2).bad("digit", 2, 0).bad("digit", 0, -1);
        scene.bad("digit", 0, 1).bad("rest", 2, 2).bad("rest", 0, 1).bad("rest", 0, 1000001);
        scene.bad("flow", 3).bad("size", 3).bad("loss", 3).bad("pressure", 3, 0);
        scene.bad("pressure", 0, -1).bad("pressure", 0, MAX_HEAD + 1);
        scene.endEachAlone(scene.anew().smallHouse());
    }

    private static void refusedOnAFullHouse() {
        Run scene = edge("a call that throws changes nothing. (on a house with all places taken)");
        scene.state("kind", 1, 1, 2).state("pipe", 0, 1).state("pipe", 19, 1000);
        scene.state("taps", 0, 0, 1).state("taps", 19, 0, 60).state("entry", 1, 1, 1);
        scene.state("entry", 1000000, 1, 1).state("rest", 0, 2).bad("digit", 0, 0);
        scene.bad("gone", 0, 0, 1).bad("gone", 19, 0, 59).bad("many", 20, 0).bad("many", 0, 8);
        scene.bad("write", 0, 0, 61, JUST).bad("write", 0, 7, 2, MORE);
        scene.endEachAlone(scene.anew().fullHouse(10));
        scene.endEachAlone(scene.anew().fullHouse(1000));
    }

    private static void refusedWithoutASize() {
        Run scene = edge("a call that throws changes nothing. (on a house without a size)");
        scene.state("pressure", 0, 0).state("pressure", 1, MAX_HEAD).state("farthest");
        Run house = scene.anew();
        house.due(0, "kind", 10, 1, 2).due(0, "entry", 9, 1, 1);
        house.due(0, "pipe", NONE, 1).due(1, "pipe", 0, 1).due(1, "taps", 1, 0, 1);
        scene.endEachAlone(house);
    }

    private static void noneIsMinusOne() {
        Run run = edge("The constants: `NONE = -1`: There is none.");
        checks++;
        if (UseOdds.NONE != NONE) {
            fault(run.sentence, "NONE", Integer.toString(UseOdds.NONE), "-1");
        }
        run.due(0, "pipe", UseOdds.NONE, 1).due(UseOdds.NONE, "size", 0).end();
    }

    // ---- Promise 1: A new object

    private static void newObjectHasNoKinds() {
        Run run = edge("Promise 1: No kinds");
        run.due(0, "pipe", NONE, 1).badKind(0).due(0, "flow", 0).due(0, "kind", 1, 1, 2).end();
    }

    private static void newObjectHasNoPipes() {
        Run run = edge("Promise 1: no pipes");
        run.due(0, "kind", 1, 1, 2).badPipe(0).due(0, "cost").state("farthest");
        run.due(0, "pipe", NONE, 1).end();
    }

    private static void newObjectHasAnEmptyList() {
        Run run = edge("Promise 1: an empty list");
        run.due(0, "pipe", NONE, 1).due(NONE, "size", 0).due(NONE, "cost").due(NONE, "loss", 0);
        run.state("pressure", 0, 0).state("farthest").due(0, "entry", 1, 1, 1).end();
    }

    private static void newObjectHasTheShareOneHundredth() {
        Run run = edge("Promise 1: the share is 1 / 100.");
        run.due(0, "kind", 1, 1, 100).due(1, "kind", 1, 10, 999).due(0, "pipe", NONE, 1);
        run.due(2, "kind", 1, 9, 901).due(3, "kind", 1, 2, 199);
        for (int kind = 0; kind < 4; kind++) {
            run.due(1, "taps", 0, kind, 1);
        }
        // 1 / 100 is just not above it; 10 / 999 and 2 / 199 are, 9 / 901 is not.
        run.due(0, "count", 0, 0).due(1, "count", 0, 1).due(0, "count", 0, 2).due(1, "count", 0, 3);
        run.end();
    }

    private static void newObjectHasNoPaper() {
        Run run = edge("Promise 11 on a new object: 0 without a paper.");
        run.due(0, "digits", 0).due(0, "digits", 1).bad("digit", 0, 0).bad("digit", 1, 0);
        run.state("rest", 0, 2).state("rest", 1, 2).end();
    }

    // ---- Promises 2 and 3: kind, pipe

    private static void kindAnswersItsNumber() {
        Run run = edge("Promise 2: A kind of taps: its number.");
        for (int kind = 0; kind < 8; kind++) {
            run.bad("kind", 1, 2, 2).due(kind, "kind", kind + 1, 1, kind + 2);
        }
        run.end();
    }

    private static void kindThereAre8() {
        Run run = edge("Promise 2: illegal state: there are 8.");
        run.due(0, "pipe", NONE, 1).done("share", 0, 1);
        for (int kind = 0; kind < 7; kind++) {
            run.due(kind, "kind", 1, 1, 2);
        }
        run.due(7, "kind", 10, 1, 2).state("kind", 10, 1, 2).state("kind", 10000, 999, 1000);
        run.due(1, "taps", 0, 7, 1).due(10, "flow", 0).bad("taps", 0, 8, 1).end();
    }

    private static void pipeTheFirstOnNone() {
        Run run = edge("Promise 3: (the first one on NONE)");
        run.bad("pipe", -2, 1).bad("pipe", 0, 1).bad("pipe", 1, 1).bad("pipe", 19, 1);
        run.due(0, "pipe", NONE, 1).bad("pipe", NONE, 1).bad("pipe", -2, 1);
        run.due(1, "pipe", 0, 1).bad("pipe", NONE, 1).end();
    }

    private static void pipeAnswersItsNumber() {
        Run run = edge("Promise 3: A pipe that hangs on another one .. its number.");
        for (int pipe = 0; pipe < 20; pipe++) {
            run.bad("pipe", pipe - 1, 0).due(pipe, "pipe", pipe - 1, 1);
        }
        run.end();
    }

    private static void pipeThereAre20() {
        Run run = edge("Promise 3: illegal state: there are 20.");
        run.due(0, "entry", 1, 1, 1);
        for (int pipe = 0; pipe < 19; pipe++) {
            run.due(pipe, "pipe", pipe == 0 ? NONE : 0, 1);
        }
        run.due(19, "pipe", 0, 100).state("pipe", 0, 1).state("pipe", 19, 1000);
        run.due(119, "cost").bad("flow", 20).due(0, "flow", 19).end();
    }

    // ---- Promises 4 and 5: taps, gone

    private static void tapsN1To60() {
        Run run = edge("Promise 4: n taps (1 .. 60) of a kind more at a pipe");
        run.due(0, "kind", 1, 1, 2).due(0, "pipe", NONE, 1);
        run.bad("taps", 0, 0, -1).bad("taps", 0, 0, 0).bad("taps", 0, 0, 61).due(0, "many", 0, 0);
        run.due(1, "taps", 0, 0, 1).due(0, "gone", 0, 0, 1).due(60, "taps", 0, 0, 60);
        run.due(0, "gone", 0, 0, 60).due(59, "taps", 0, 0, 59).bad("taps", 0, 0, 0);
        run.bad("taps", 0, 0, 61).bad("taps", 0, 0, HIGH).bad("taps", 0, 0, LOW).end();
    }

    private static void tapsAnswersHowManyAreAtIt() {
        Run run = edge("Promise 4: how many there are at it.");
        run.due(0, "kind", 1, 1, 2).due(1, "kind", 1, 1, 2);
        run.due(0, "pipe", NONE, 1).due(1, "pipe", 0, 1).due(2, "pipe", 0, 1);
        run.due(7, "taps", 1, 0, 7).due(1, "taps", 0, 0, 1).due(3, "taps", 0, 0, 2);
        run.due(5, "taps", 2, 0, 5).due(2, "taps", 0, 1, 2).due(8, "taps", 1, 0, 1).end();
    }

    private static void tapsMoreThan60InAll() {
        Run run = edge("Promise 4: illegal state: there would be more than 60 in all.");
        run.due(0, "kind", 1, 1, 2).due(0, "pipe", NONE, 1).due(1, "pipe", 0, 1);
        run.due(1, "taps", 1, 0, 1).state("taps", 0, 0, 60).due(1, "many", 0, 0);
        run.due(59, "taps", 0, 0, 59).state("taps", 0, 0, 1).state("taps", 1, 0, 1);
        run.due(60, "many", 0, 0).due(0, "gone", 1, 0, 1).state("taps", 1, 0, 2);
        run.due(60, "taps", 0, 0, 1).state("taps", 0, 0, 1).end();
    }

    private static void goneNBelow1() {
        Run run = edge("Promise 5: Illegal argument: also if n is below 1");
        run.due(0, "kind", 1, 1, 2).due(0, "pipe", NONE, 1).due(5, "taps", 0, 0, 5);
        run.bad("gone", 0, 0, 0).bad("gone", 0, 0, -1).bad("gone", 0, 0, -55);
        run.bad("gone", 0, 0, LOW).due(5, "many", 0, 0).due(4, "gone", 0, 0, 1).end();
    }

    private static void goneThereAreFewer() {
        Run run = edge("Promise 5: or there are fewer.");
        run.due(0, "kind", 1, 1, 2).due(1, "kind", 1, 1, 2).due(0, "pipe", NONE, 1);
        run.due(1, "pipe", 0, 1).bad("gone", 0, 0, 1).due(60, "taps", 1, 0, 60);
        // What it carries is not what is at it, and what is of another kind does not go.
        run.bad("gone", 0, 0, 1).bad("gone", 1, 1, 1).bad("gone", 1, 0, 61);
        run.bad("gone", 1, 0, HIGH).due(0, "gone", 1, 0, 60).bad("gone", 1, 0, 1);
        run.due(3, "taps", 0, 1, 3).bad("gone", 0, 1, 4).bad("gone", 1, 1, 3);
        run.due(0, "gone", 0, 1, 3).bad("gone", 0, 1, 1).end();
    }

    private static void goneAnswersHowManyAreLeft() {
        Run run = edge("Promise 5: how many are left.");
        run.due(0, "kind", 1, 1, 2).due(0, "pipe", NONE, 1).due(1, "pipe", 0, 1);
        run.due(60, "taps", 1, 0, 60).due(59, "gone", 1, 0, 1).due(1, "taps", 0, 0, 1);
        run.due(0, "gone", 0, 0, 1).due(59, "many", 0, 0).due(1, "gone", 1, 0, 58);
        run.due(1, "many", 0, 0).due(0, "gone", 1, 0, 1).due(0, "many", 0, 0).due(0, "many", 1, 0);
        run.due(60, "taps", 0, 0, 60).end();
    }

    // ---- Promises 6 and 7: share, entry

    private static void shareAboveIs0ToBelow() {
        Run run = edge("Promise 6: Illegal argument: above is not 0 .. below");
        run.due(0, "kind", 1, 1, 2).due(0, "pipe", NONE, 1).due(4, "taps", 0, 0, 4);
        run.bad("share", -1, 5).bad("share", 6, 5).due(4, "count", 0, 0);
        run.done("share", 0, 5).due(4, "count", 0, 0).done("share", 5, 5).due(0, "count", 0, 0);
        run.bad("share", -1, 5).bad("share", 6, 5).due(0, "count", 0, 0);
        run.done("share", 1, 5).due(3, "count", 0, 0).done("share", 4, 5).due(1, "count", 0, 0);
        run.bad("share", 2, 1).done("share", 1, 1).due(0, "count", 0, 0);
        run.bad("share", -1, 1).done("share", 0, 1).due(4, "count", 0, 0);
        run.bad("share", 1000001, 1000000).done("share", 1000000, 1000000).due(0, "count", 0, 0);
        run.end();
    }

    private static void shareBelowIs1To1000000() {
        Run run = edge("Promise 6: below not 1 .. 1000000.");
        run.due(0, "kind", 1, 1, 2).due(0, "pipe", NONE, 1).due(4, "taps", 0, 0, 4);
        run.bad("share", 0, 0).bad("share", 0, -1).bad("share", -1, -1).bad("share", 1, 0);
        run.bad("share", 0, 1000001).bad("share", 500000, 1000001).bad("share", 1000001, 1000001);
        run.due(4, "count", 0, 0).done("share", 1, 1).due(0, "count", 0, 0);
        run.bad("share", 0, 0).bad("share", 0, 1000001).due(0, "count", 0, 0);
        run.done("share", 62500, 1000000).due(3, "count", 0, 0);
        run.done("share", 62499, 1000000).due(4, "count", 0, 0).done("share", 0, 1);
        run.due(4, "count", 0, 0).done("share", 0, 1000000).due(4, "count", 0, 0).end();
    }

    private static void entryAnswersItsNumber() {
        Run run = edge("Promise 7: An entry: its number.");
        for (int entry = 0; entry < 20; entry++) {
            run.bad("entry", 0, 1, 1).due(entry, "entry", 20 - entry, 1 + entry, 1);
        }
        run.end();
    }

    private static void entryThereAre20() {
        Run run = edge("Promise 7: illegal state: there are 20.");
        run.due(0, "pipe", NONE, 1);
        for (int entry = 0; entry < 19; entry++) {
            run.due(entry, "entry", 1, 1, 9);
        }
        run.due(19, "entry", 1, 1, 8).due(8, "cost").state("entry", 1, 1, 7);
        run.state("entry", 1000000, 1000, 1).due(19, "size", 0).due(8, "cost").end();
    }

    // ---- Promises 8 and 9: many, count

    private static void manyOfNoneAndOfAll() {
        Run run = edge("Promise 8: How many taps of a kind a pipe carries.");
        run.bad("many", 0, 0).due(0, "kind", 1, 1, 2).bad("many", 0, 0).due(0, "pipe", NONE, 1);
        run.due(0, "many", 0, 0).due(60, "taps", 0, 0, 60).due(60, "many", 0, 0);
        run.due(1, "pipe", 0, 1).due(0, "many", 1, 0).due(1, "kind", 1, 1, 2).due(0, "many", 0, 1);
        run.due(0, "gone", 0, 0, 60).due(60, "taps", 1, 0, 60).due(60, "many", 0, 0);
        run.due(60, "many", 1, 0).due(0, "gone", 1, 0, 60).due(0, "many", 0, 0).end();
    }

    private static void countOfNoneAndOfAll() {
        Run run = edge("Promise 9: COUNT. Illegal argument.");
        run.bad("count", 0, 0).due(0, "kind", 1, 999, 1000).bad("count", 0, 0);
        run.due(0, "pipe", NONE, 1).due(1, "pipe", 0, 1).due(0, "count", 0, 0);
        run.bad("count", 0, 1).bad("count", 2, 0).bad("count", -1, 0).bad("count", 0, -1);
        run.due(1, "taps", 1, 0, 1).due(1, "count", 0, 0).due(1, "count", 1, 0);
        run.due(60, "taps", 1, 0, 59).due(60, "count", 0, 0).due(60, "count", 1, 0);
        // It follows the taps and the share, though it has been asked for before.
        run.done("share", 1, 1).due(0, "count", 0, 0).done("share", 0, 1).due(60, "count", 0, 0);
        run.due(1, "gone", 1, 0, 59).due(1, "count", 0, 0).due(0, "gone", 1, 0, 1);
        run.due(0, "count", 0, 0).end();
    }

    // ---- Promise 10: write

    private static void writeKIs0ToHowManyItCarries() {
        Run run = edge("Promise 10: Illegal argument: k is not 0 .. how many it carries.");
        run.due(0, "kind", 1, 1, 2).due(0, "pipe", NONE, 1).due(1, "pipe", 0, 1);
        for (int more = JUST; more <= MORE; more++) {
            run.bad("write", 0, 0, -1, more).bad("write", 0, 0, 1, more);
            run.due(2, "write", 0, 0, 0, more);
        }
        run.due(3, "taps", 1, 0, 3).due(1, "taps", 0, 0, 1);
        for (int more = JUST; more <= MORE; more++) {
            run.due(more == JUST ? 3 : 4, "write", 0, 0, 0, more).bad("write", 0, 0, -1, more);
            run.due(more == JUST ? 3 : 2, "write", 0, 0, 4, more).bad("write", 0, 0, 5, more);
            run.due(2, "write", 1, 0, 3, more).bad("write", 1, 0, 4, more);
            run.bad("write", 0, 0, HIGH, more).bad("write", 0, 0, LOW, more);
        }
        run.due(59, "taps", 1, 0, 56).due(20, "write", 0, 0, 60, JUST);
        run.bad("write", 0, 0, 61, JUST).bad("write", 0, 0, 61, MORE).end();
    }

    private static void writeAnswersAllDigits() {
        Run run = edge("Promise 10: how many digits both numbers have together.");
        run.due(0, "kind", 1, 999, 1000).due(1, "kind", 1, 1, 10).due(0, "pipe", NONE, 1);
        run.due(2, "write", 0, 0, 0, JUST).due(2, "write", 0, 0, 0, MORE);
        run.due(60, "taps", 0, 0, 60).due(361, "write", 0, 0, 60, JUST);
        run.due(180, "digits", 0).due(181, "digits", 1);
        run.due(182, "write", 0, 0, 0, JUST).due(1, "digits", 0).due(181, "digits", 1);
        run.due(2, "write", 0, 0, 60, MORE);
        for (int n = 1; n <= 60; n++) {
            run.due(n, "taps", 0, 1, 1).due(n + 2, "write", 0, 1, n, JUST).due(n + 1, "digits", 1);
        }
        run.end();
    }

    private static void writeReplacesThePaper() {
        Run run = edge("Promise 10: The paper gets the odds");
        run.due(0, "kind", 1, 1, 2).due(1, "kind", 1, 1, 1000).due(0, "pipe", NONE, 1);
        run.due(4, "taps", 0, 0, 4).due(60, "taps", 0, 1, 60);
        run.due(182, "write", 0, 1, 60, JUST).paper(0, 2, JUST, "3", "8");
        run.bad("write", 0, 0, 5, JUST).reads("3", "8").bad("write", 1, 0, 0, JUST).reads("3", "8");
        run.bad("write", 0, 2, 0, MORE).reads("3", "8");
        // It stays as it was written when taps, share and kinds change.
        run.due(5, "taps", 0, 0, 1).reads("3", "8").due(0, "gone", 0, 0, 5).reads("3", "8");
        run.done("share", 1, 2).due(2, "kind", 1, 1, 7).due(1, "pipe", 0, 1).due(0, "count", 0, 0);
        run.due(0, "flow", 0).reads("3", "8").paper(0, 0, JUST, "1", "1");
        run.paper(0, 0, MORE, "0", "1").end();
    }

    // ---- Promises 11, 12 and 13: digits, digit, rest

    private static void digitsWhichIs0Or1() {
        Run run = edge("Promise 11: the paper's upper (0) or lower (1) number .. Illegal "
                + "argument.");
        run.bad("digits", -1).bad("digits", 2).due(0, "digits", 0).due(0, "digits", 1);
        run.smallHouse().due(1, "digits", 0).due(1, "digits", 1).bad("digits", -1).bad("digits", 2);
        run.due(3, "write", 2, 0, 0, JUST).due(1, "digits", 0).due(2, "digits", 1).end();
    }

    private static void digits0WithoutAPaper() {
        Run run = edge("Promise 11: 0 without a paper.");
        run.due(0, "digits", 0).due(0, "digits", 1).due(0, "kind", 1, 1, 2).due(0, "pipe", NONE, 1);
        run.bad("write", 0, 0, 1, JUST).due(0, "digits", 0).due(0, "digits", 1);
        run.due(0, "count", 0, 0).due(4, "taps", 0, 0, 4).due(4, "count", 0, 0);
        run.due(0, "digits", 0).due(0, "digits", 1);
        run.due(2, "write", 0, 0, 4, MORE).due(1, "digits", 0).due(1, "digits", 1).end();
    }

    private static void digitHighestFirst() {
        Run run = edge("Promise 12: Digit i of it, the highest first.");
        run.due(0, "kind", 1, 1, 2).due(0, "pipe", NONE, 1).due(60, "taps", 0, 0, 60);
        run.due(20, "write", 0, 0, 60, JUST).due(1, "digit", 0, 0);
        String lower = power(2, 60);
        for (int i = 0; i < lower.length(); i++) {
            run.due(lower.charAt(i) - '0', "digit", 1, i);
        }
        run.end();
        // Zeros across the seams of a number that is held in groups of digits.
        Run zeros = run.anew();
        zeros.due(0, "kind", 1, 1, 10).due(0, "pipe", NONE, 1).due(60, "taps", 0, 0, 60);
        zeros.paper(0, 60, JUST, "1", power(10, 60)).end();
    }

    private static void digitThereIsNoneSuch() {
        Run run = edge("Promise 12: Illegal argument: there is none such.");
        run.bad("digit", 0, 0).bad("digit", 1, 0).bad("digit", 0, -1).bad("digit", 1, 1);
        run.smallHouse().due(3, "digit", 0, 0).bad("digit", 0, 1).bad("digit", 0, -1);
        run.due(8, "digit", 1, 0).bad("digit", 1, 1).bad("digit", 1, -1);
        run.bad("digit", -1, 0).bad("digit", 2, 0).due(3, "write", 2, 0, 0, JUST);
        run.bad("digit", 0, 1).due(6, "digit", 1, 1).bad("digit", 1, 2).bad("digit", 1, -1);
        run.due(2, "write", 2, 0, 4, MORE).due(0, "digit", 0, 0).bad("digit", 0, 1);
        run.due(1, "digit", 1, 0).bad("digit", 1, 1).end();
        Run most = run.anew();
        most.due(0, "kind", 1, 999, 1000).due(0, "pipe", NONE, 1).due(60, "taps", 0, 0, 60);
        most.due(361, "write", 0, 0, 60, JUST).due(1, "digit", 0, 179).bad("digit", 0, 180);
        most.due(9, "digit", 0, 0).due(1, "digit", 1, 0).due(0, "digit", 1, 180);
        most.bad("digit", 1, 181).bad("digit", 1, 191).bad("digit", 1, 192).bad("digit", 1, HIGH);
        most.bad("digit", 1, LOW).bad("digit", 0, HIGH).bad("digit", 0, LOW).end();
    }

    private static void restMIs2To1000000() {
        Run run = edge("Promise 13: when it is divided by m (2 .. 1000000)");
        run.due(0, "kind", 1, 999, 1000).due(1, "kind", 1, 1, 7).due(0, "pipe", NONE, 1);
        run.due(60, "taps", 0, 0, 60).due(60, "taps", 0, 1, 60).due(361, "write", 0, 0, 60, JUST);
        BigInteger upper = new BigInteger(power(999, 60));
        BigInteger lower = new BigInteger(power(1000, 60));
        for (int m : new int[] {2, 3, 999, 1000, 999983, 999999, 1000000}) {
            run.due(upper.mod(BigInteger.valueOf(m)).longValue(), "rest", 0, m);
            run.due(lower.mod(BigInteger.valueOf(m)).longValue(), "rest", 1, m);
        }
        for (int which = 0; which < 2; which++) {
            run.bad("rest", which, 1).bad("rest", which, 0).bad("rest", which, -1);
            run.bad("rest", which, -2).bad("rest", which, 1000001).bad("rest", which, LOW);
        }
        BigInteger seven = new BigInteger(power(7, 60));
        run.due(52, "write", 0, 1, 60, JUST).due(1, "rest", 0, 2).due(1, "rest", 0, 1000000);
        run.due(seven.mod(BigInteger.valueOf(1000000)).longValue(), "rest", 1, 1000000);
        run.due(0, "rest", 1, 7).due(1, "rest", 1, 2).end();
        Run small = run.anew();
        small.smallHouse().due(3, "rest", 0, 1000000).due(8, "rest", 1, 1000000);
        small.due(1, "rest", 0, 2).due(0, "rest", 1, 2).due(0, "rest", 0, 3).due(0, "rest", 1, 8);
        small.due(8, "rest", 1, 9).due(3, "rest", 0, 4).end();
    }

    private static void restWhichIs0Or1() {
        Run run = edge("Promise 13: the paper's lower number .. and (which 0) the upper one.");
        run.bad("rest", -1, 2).bad("rest", 2, 2).smallHouse();
        run.due(3, "rest", 0, 5).due(3, "rest", 1, 5).due(3, "rest", 0, 11).due(8, "rest", 1, 11);
        run.bad("rest", -1, 2).bad("rest", 2, 2).end();
    }

    private static void restThereIsNoPaper() {
        Run run = edge("Promise 13: illegal state: there is no paper.");
        run.state("rest", 0, 2).state("rest", 1, 1000000).due(0, "kind", 1, 1, 2);
        run.due(0, "pipe", NONE, 1).state("rest", 0, 2).bad("write", 0, 0, 1, JUST);
        run.state("rest", 0, 2).state("rest", 1, 2).due(0, "count", 0, 0).state("rest", 1, 2);
        run.due(2, "write", 0, 0, 0, MORE).due(0, "rest", 0, 2).due(1, "rest", 1, 2).end();
    }

    // ---- Promises 14, 15 and 16: flow, size, cost

    private static void flowOfNoneAndOfAll() {
        Run run = edge("Promise 14: FLOW. Illegal argument.");
        run.bad("flow", 0).due(0, "pipe", NONE, 1).due(0, "flow", 0).bad("flow", 1).bad("flow", -1);
        run.done("share", 0, 1);
        for (int kind = 0; kind < 8; kind++) {
            run.due(kind, "kind", 10000, 1, 2).due(60, "taps", 0, kind, 60);
        }
        run.due(4800000, "flow", 0).due(1, "pipe", 0, 1).due(0, "flow", 1);
        run.done("share", 1, 1).due(0, "flow", 0).end();
    }

    private static void sizeNoneIfNoEntryHasTheCapacity() {
        Run run = edge("Promise 15: NONE if no entry has the capacity.");
        run.bad("size", 0).due(0, "pipe", NONE, 1).due(NONE, "size", 0);
        run.due(0, "kind", 10000, 1, 2).due(1, "kind", 1, 1, 2).done("share", 0, 1);
        run.due(2, "taps", 0, 1, 2).due(0, "entry", 1, 1, 1).due(NONE, "size", 0);
        run.due(1, "gone", 0, 1, 1).due(0, "size", 0);
        run.due(60, "taps", 0, 0, 60).due(NONE, "size", 0);
        for (int entry = 1; entry < 19; entry++) {
            run.due(entry, "entry", 600000, 1, 1);
        }
        run.due(NONE, "size", 0).due(19, "entry", 600001, 1, 10000).due(19, "size", 0);
        run.due(1, "pipe", 0, 1).due(0, "size", 1).bad("size", 2).end();
    }

    private static void costOfAllPipes() {
        Run run = edge("Promise 16: What all pipes cost, each its length times that of its size");
        run.due(0, "cost").due(0, "entry", 1, 1, 10000).due(0, "cost");
        for (int pipe = 0; pipe < 20; pipe++) {
            run.due(pipe, "pipe", pipe - 1, 1000).due((pipe + 1) * 10000000L, "cost");
        }
        run.due(1, "entry", 1, 1, 1).due(20000, "cost").due(0, "kind", 2, 1, 2);
        run.due(2, "entry", 2, 1, 3).due(1, "taps", 4, 0, 1).due(30000, "cost").end();
    }

    private static void costNoneIfOneHasNoSize() {
        Run run = edge("Promise 16: NONE if one has no size.");
        run.due(0, "cost").due(0, "pipe", NONE, 5).due(NONE, "cost").due(0, "entry", 10, 1, 2);
        run.due(10, "cost").due(0, "kind", 10, 1, 2).due(1, "pipe", 0, 7).due(24, "cost");
        run.due(1, "taps", 0, 0, 1).due(24, "cost").due(2, "taps", 0, 0, 1);
        // The root alone has none, pipe 1 has one.
        run.due(0, "size", 1).due(NONE, "size", 0).due(NONE, "cost");
        run.due(1, "gone", 0, 0, 1).due(24, "cost").due(2, "taps", 1, 0, 2).due(NONE, "cost");
        run.due(0, "gone", 0, 0, 1).due(NONE, "cost");
        run.due(1, "entry", 20, 1, 3).due(36, "cost").end();
    }

    // ---- Promises 17, 18 and 19: loss, pressure, farthest

    private static void lossNoneWithoutASize() {
        Run run = edge("Promise 17: NONE without a size.");
        run.bad("loss", 0).due(0, "pipe", NONE, 1).due(NONE, "loss", 0).bad("loss", 1);
        run.due(0, "kind", 10, 1, 2).due(1, "pipe", 0, 1).due(1, "taps", 0, 0, 1);
        run.due(NONE, "loss", 1).due(0, "entry", 9, 1, 1).due(0, "loss", 1).due(NONE, "loss", 0);
        run.due(1, "entry", 10, 1, 1).due(100, "loss", 0).due(2, "taps", 0, 0, 1);
        run.due(NONE, "loss", 0).due(0, "loss", 1).bad("loss", 2).bad("loss", -1).end();
    }

    private static void pressureHeadIs0To10ToThe12() {
        Run run = edge("Promise 18: Illegal argument: also if the head is not 0 .. 10^12");
        run.due(0, "pipe", NONE, 1).due(0, "kind", 10, 1, 2).due(0, "entry", 10, 1, 1);
        run.bad("pressure", 0, -1).due(0, "pressure", 0, 0).due(1, "pressure", 0, 1);
        run.due(MAX_HEAD, "pressure", 0, MAX_HEAD).bad("pressure", 0, MAX_HEAD + 1);
        run.due(1, "taps", 0, 0, 1).due(-100, "pressure", 0, 0).due(0, "pressure", 0, 100);
        run.due(MAX_HEAD - 100, "pressure", 0, MAX_HEAD).bad("pressure", 0, -1);
        run.bad("pressure", 0, MAX_HEAD + 1).bad("pressure", 0, Long.MIN_VALUE);
        run.bad("pressure", 0, Long.MAX_VALUE);
        for (long head : new long[] {HIGH, HIGH + 1, 1L << 32, (1L << 32) + 7}) {
            run.due(head - 100, "pressure", 0, head);
        }
        run.bad("pressure", 1, 0).bad("pressure", -1, 0).end();
    }

    private static void pressureAPipeOnTheWayHasNoSize() {
        Run run = edge("Promise 18: illegal state: a pipe on the way has no size.");
        run.bad("pressure", 0, 0).due(0, "pipe", NONE, 1).state("pressure", 0, 0);
        run.due(0, "kind", 10, 1, 2).due(0, "entry", 10, 1, 1).due(5, "pressure", 0, 5);
        for (int pipe = 1; pipe < 20; pipe++) {
            run.due(pipe, "pipe", pipe - 1, 1);
        }
        run.due(1, "taps", 0, 0, 1).due(-95, "pressure", 19, 5).due(2, "taps", 0, 0, 1);
        // The root alone has no size, and is on the way of all.
        run.due(NONE, "size", 0).due(0, "size", 1).due(0, "size", 19);
        run.state("pressure", 0, 5).state("pressure", 1, 5).state("pressure", 19, 5);
        run.due(0, "gone", 0, 0, 2).due(2, "taps", 19, 0, 2).state("pressure", 19, 5);
        run.state("pressure", 18, 5).due(1, "gone", 19, 0, 1).due(-1995, "pressure", 19, 5).end();
    }

    private static void farthestOfSeveralTheFirst() {
        Run run = edge("Promise 19: of several the first.");
        run.due(0, "kind", 1, 1, 2).due(0, "entry", 1000, 1, 1).done("share", 0, 1);
        run.due(0, "pipe", NONE, 1).due(0, "farthest").due(1, "pipe", 0, 1).due(2, "pipe", 0, 1);
        run.due(3, "pipe", 2, 1).due(0, "farthest").due(1, "taps", 0, 0, 1).due(0, "farthest");
        run.due(1, "taps", 2, 0, 1).due(2, "farthest").due(1, "taps", 1, 0, 1).due(1, "farthest");
        // A pipe without a loss is as far as the one that it hangs on.
        run.due(0, "gone", 1, 0, 1).due(2, "farthest").due(1, "taps", 3, 0, 1).due(3, "farthest");
        run.due(0, "gone", 3, 0, 1).due(2, "farthest").end();
    }

    private static void farthestHasTheLeastPressure() {
        Run run = edge("Promise 19: The pipe with the least pressure");
        run.due(0, "kind", 1, 1, 2).due(0, "entry", 1, 1, 1).done("share", 0, 1);
        for (int pipe = 0; pipe < 20; pipe++) {
            run.due(pipe, "pipe", pipe == 0 ? NONE : pipe - 1, 1);
        }
        for (int pipe = 0; pipe < 20; pipe++) {
            run.due(1, "taps", pipe, 0, 1).due(pipe, "farthest").due(0, "gone", pipe, 0, 1);
        }
        run.end();
        // Losses of 999 and 1000, then of 999 + 1, then of 999 + 2 beside the 1000.
        Run close = run.anew();
        close.due(0, "kind", 1, 1, 2).due(0, "entry", 2, 1, 1).done("share", 0, 1);
        close.due(0, "pipe", NONE, 1).due(1, "pipe", 0, 999).due(2, "pipe", 0, 1000);
        close.due(1, "taps", 1, 0, 1).due(1, "farthest").due(1, "taps", 2, 0, 1).due(2, "farthest");
        close.due(3, "pipe", 1, 1).due(0, "gone", 1, 0, 1).due(1, "taps", 3, 0, 1);
        close.due(2, "farthest").due(4, "pipe", 1, 2).due(0, "gone", 3, 0, 1);
        close.due(1, "taps", 4, 0, 1).due(4, "farthest").end();
    }

    private static void farthestThereIsNoPipe() {
        Run run = edge("Promise 19: Illegal state: there is no pipe");
        run.state("farthest").due(0, "kind", 1, 1, 2).due(0, "entry", 1, 1, 1).state("farthest");
        run.bad("pipe", NONE, 0).state("farthest").due(0, "pipe", NONE, 1).due(0, "farthest").end();
    }

    private static void farthestOneHasNoSize() {
        Run run = edge("Promise 19: or one has no size.");
        run.due(0, "pipe", NONE, 1).state("farthest").due(0, "entry", 10, 1, 1).due(0, "farthest");
        run.due(0, "kind", 10, 1, 2).due(1, "pipe", 0, 1).due(2, "pipe", 1, 1).done("share", 0, 1);
        run.due(1, "taps", 0, 0, 1).due(0, "farthest").due(2, "taps", 0, 0, 1);
        // The root alone has none.
        run.due(NONE, "size", 0).due(0, "size", 1).state("farthest").due(1, "gone", 0, 0, 1);
        run.due(1, "taps", 2, 0, 1).state("farthest").due(0, "gone", 0, 0, 1).due(2, "farthest");
        run.due(2, "taps", 2, 0, 1).state("farthest").due(1, "entry", 20, 1, 2).due(2, "farthest");
        run.end();
    }

    // ---- what the tests are made of

    private static Run edge(String sentence) {
        edges++;
        return new Run(sentence);
    }

    private static String power(int root, int exponent) {
        return BigInteger.valueOf(root).pow(exponent).toString();
    }

    /** What more than k of n are on with, as parts of b^n. */
    private static BigInteger more(int a, int b, int n, int k) {
        BigInteger sum = BigInteger.ZERO;
        BigInteger ways = BigInteger.ONE;
        for (int on = n; on > k; on--) {
            sum = sum.add(ways.multiply(BigInteger.valueOf(a).pow(on))
                    .multiply(BigInteger.valueOf(b - a).pow(n - on)));
            ways = ways.multiply(BigInteger.valueOf(on)).divide(BigInteger.valueOf(n - on + 1));
        }
        return sum;
    }

    private static void fault(String sentence, String call, String got, String want) {
        wrong++;
        System.out.println("\"" + sentence + "\": " + call + " answered " + got + ", due is "
                + want);
    }

    /** A call, and what is due: a number, "done", or an exception's name behind "throws.". */
    private static final class Row {
        private final String due;
        private final String call;
        private final long[] args;

        Row(String due, String call, long[] args) {
            this.due = due;
            this.call = call;
            this.args = args;
        }

        boolean isRefused() {
            return due.startsWith("throws.");
        }

        String text() {
            return call + Arrays.toString(args);
        }

        String answerOf(UseOdds x) {
            try {
                return ask(x);
            } catch (RuntimeException e) {
                return "throws." + e.getClass().getSimpleName();
            }
        }

        private String ask(UseOdds x) {
            if (call.equals("share")) {
                x.share(at(0), at(1));
                return "done";
            }
            return Long.toString(askNumber(x));
        }

        private long askNumber(UseOdds x) {
            switch (call) {
                case "kind": return x.kind(at(0), at(1), at(2));
                case "pipe": return x.pipe(at(0), at(1));
                case "taps": return x.taps(at(0), at(1), at(2));
                case "gone": return x.gone(at(0), at(1), at(2));
                case "entry": return x.entry(at(0), at(1), at(2));
                case "many": return x.many(at(0), at(1));
                case "count": return x.count(at(0), at(1));
                case "write": return x.write(at(0), at(1), at(2), at(3) == MORE);
                case "digits": return x.digits(at(0));
                case "digit": return x.digit(at(0), at(1));
                case "rest": return x.rest(at(0), at(1));
                case "flow": return x.flow(at(0));
                case "size": return x.size(at(0));
                case "cost": return x.cost();
                case "loss": return x.loss(at(0));
                case "pressure": return x.pressure(at(0), args[1]);
                case "farthest": return x.farthest();
                default: throw new UnsupportedOperationException(call);
            }
        }

        private int at(int place) {
            return Math.toIntExact(args[place]);
        }
    }

    /** Calls on a new object, each with what is due. */
    private static final class Run {
        private final String sentence;
        private final List<Row> rows = new ArrayList<>();

        Run(String sentence) {
            this.sentence = sentence;
        }

        /** Another run for the same sentence. */
        Run anew() {
            return new Run(sentence);
        }

        Run due(long answer, String call, long... args) {
            return row(Long.toString(answer), call, args);
        }

        Run done(String call, long... args) {
            return row("done", call, args);
        }

        Run bad(String call, long... args) {
            return row("throws.IllegalArgumentException", call, args);
        }

        Run state(String call, long... args) {
            return row("throws.IllegalStateException", call, args);
        }

        /** What is due is what another object answers. */
        private Run ask(String call, long... args) {
            return row("", call, args);
        }

        private Run row(String due, String call, long... args) {
            rows.add(new Row(due, call, args));
            return this;
        }

        /** Odds at the root, with every digit of them. */
        Run paper(int kind, int k, int more, String upper, String lower) {
            due(upper.length() + lower.length(), "write", 0, kind, k, more);
            return reads(upper, lower);
        }

        Run reads(String upper, String lower) {
            String[] numbers = {upper, lower};
            for (int which = 0; which < 2; which++) {
                due(numbers[which].length(), "digits", which);
                for (int i = 0; i < numbers[which].length(); i++) {
                    due(numbers[which].charAt(i) - '0', "digit", which, i);
                }
            }
            return this;
        }

        /** All calls that name a pipe, but for a new object's first one on NONE. */
        Run badPipe(long pipe) {
            bad("taps", pipe, 0, 1).bad("gone", pipe, 0, 1).bad("many", pipe, 0);
            bad("count", pipe, 0).bad("write", pipe, 0, 0, JUST).bad("flow", pipe);
            bad("size", pipe).bad("loss", pipe).bad("pressure", pipe, 0);
            return pipe == NONE ? this : bad("pipe", pipe, 1);
        }

        /** All calls that name a kind. */
        Run badKind(long kind) {
            bad("taps", 0, kind, 1).bad("gone", 0, kind, 1).bad("many", 0, kind);
            return bad("count", 0, kind).bad("write", 0, kind, 0, JUST);
        }

        /** Some of all; pipes 0, 1, 2 in a chain. The paper is 3 / 8. */
        Run smallHouse() {
            due(0, "kind", 10, 1, 2).due(1, "kind", 7, 1, 60);
            due(0, "pipe", NONE, 5).due(1, "pipe", 0, 2).due(2, "pipe", 1, 3);
            due(1, "taps", 0, 0, 1).due(2, "taps", 1, 0, 2).due(4, "taps", 2, 0, 4);
            due(3, "taps", 0, 1, 3).due(1, "taps", 2, 1, 1);
            due(0, "entry", 50, 3, 5).due(1, "entry", 200, 4, 9);
            return due(2, "write", 2, 0, 2, JUST);
        }

        /** All places taken, but no paper. The taps of kind 0 have a flow of some hundreds. */
        Run fullHouse(int capacity) {
            for (int kind = 0; kind < 8; kind++) {
                due(kind, "kind", 10 + kind, 1, 2 + kind);
            }
            for (int pipe = 0; pipe < 20; pipe++) {
                due(pipe, "pipe", pipe == 0 ? NONE : (pipe - 1) / 2, 1 + pipe);
            }
            for (int entry = 0; entry < 20; entry++) {
                due(entry, "entry", capacity + entry, 1 + entry, 40 - entry);
            }
            return due(58, "taps", 19, 0, 58).due(2, "taps", 3, 0, 2).due(1, "taps", 7, 7, 1);
        }

        /** Each of these calls as the last one of a run of its own. */
        void endEachAlone(Run scene) {
            for (Row row : rows) {
                Run run = scene.anew();
                run.rows.addAll(scene.rows);
                run.rows.add(row);
                run.end();
            }
        }

        void end() {
            UseOdds object = new UseOdds();
            UseOdds without = new UseOdds();
            for (Row row : rows) {
                compare(row, "", row.answerOf(object), row.due);
                if (!row.isRefused()) {
                    compare(row, " without the refused calls", row.answerOf(without), row.due);
                }
            }
            if (rows.size() > MAX_CALLS) {
                fault(sentence, "the run's number of calls", "" + rows.size(), "512 at most");
            }
            List<Row> all = allThatItTells();
            for (int i = 0; i < all.size() && rows.size() + i < MAX_CALLS; i++) {
                Row row = all.get(i);
                compare(row, " after it all", row.answerOf(object), row.answerOf(without));
            }
        }

        private void compare(Row row, String when, String got, String want) {
            checks++;
            if (!got.equals(want)) {
                fault(sentence, row.text() + when, got, want);
            }
        }

        /** What an object can be asked for, and what calls that change it answer then. */
        private List<Row> allThatItTells() {
            Run last = anew();
            int kinds = accepted("kind");
            int pipes = accepted("pipe");
            last.ask("cost").ask("farthest").ask("digits", 0).ask("digits", 1);
            last.ask("digit", 0, 0).ask("digit", 1, 0);
            last.ask("rest", 0, 999983).ask("rest", 1, 999983).ask("rest", 1, 1000000);
            for (int pipe = 0; pipe <= pipes; pipe++) {
                last.ask("flow", pipe).ask("size", pipe).ask("loss", pipe).ask("pressure", pipe, 9);
                for (int kind = 0; kind <= kinds && pipe < pipes; kind++) {
                    last.ask("many", pipe, kind).ask("count", pipe, kind);
                }
            }
            last.ask("pipe", pipes == 0 ? NONE : pipes - 1, 100).ask("entry", 1000000, 10, 1);
            last.ask("kind", 3, 1, 3).ask("cost").ask("taps", 0, kinds, 60).ask("count", 0, kinds);
            for (int pipe = pipes; pipe >= 0; pipe--) {
                for (int kind = 0; kind <= kinds; kind++) {
                    last.ask("gone", pipe, kind, 1).ask("taps", pipe, kind, 2);
                    last.ask("count", pipe, kind);
                }
            }
            return last.rows;
        }

        private int accepted(String call) {
            int number = 0;
            for (Row row : rows) {
                if (row.call.equals(call) && !row.isRefused()) {
                    number++;
                }
            }
            return number;
        }
    }
}

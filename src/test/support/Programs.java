/** The document's numbers, and programs that several tests build. */
abstract class Programs {
    static final int NONE = -1000000, BAD = -1000001, STATE = -1000002, FULL = -1000003, SPENT = -1000004, KIND = -1000005;
    static final int LOWER = 0, UPPER = 1;
    static final int END = 6, OR = 7, DONE = 8;

    static final int[] ZERO = {0, 0, 0, 0, 0, 0};
    static final int[] ONE = {1, 0, 0, 0, 0, 0};
    static final int[] TWO = {2, 0, 0, 0, 0, 0};
    static final int[] X0 = {0, 1, 0, 0, 0, 0};
    static final int[] X1 = {0, 0, 1, 0, 0, 0};
    static final int[] I0 = {0, 0, 0, 1, 0, 0};
    static final int[] I1 = {0, 0, 0, 0, 1, 0};
    static final int[] I2 = {0, 0, 0, 0, 0, 1};
    static final int[] TWICE_X0 = {0, 2, 0, 0, 0, 0};
    static final int[] TWICE_I0 = {0, 0, 0, 2, 0, 0};
    static final int[] ALL_TWO = {2, 2, 2, 2, 2, 2};

    static StepsAhead withRoutines(int routines) {
        StepsAhead x = new StepsAhead();
        for (int i = 0; i < routines; i++) {
            x.routine();
        }
        return x;
    }

    static void first(StepsAhead x, int... factors) {
        x.expression(0, factors[0], factors[1], factors[2], factors[3], factors[4], factors[5]);
    }

    static void second(StepsAhead x, int... factors) {
        x.expression(1, factors[0], factors[1], factors[2], factors[3], factors[4], factors[5]);
    }

    static void loop(StepsAhead x, int routine, int[] end) {
        first(x, end);
        x.loop(routine);
    }

    static void closeLoops(StepsAhead x, int routine, int loops) {
        for (int i = 0; i < loops; i++) {
            x.close(routine, END);
        }
    }

    static void closeLoops(StepsAhead x, int routine) {
        closeLoops(x, routine, 3);
    }

    static void call(StepsAhead x, int routine, int called, int[] x0, int[] x1) {
        first(x, x0);
        second(x, x1);
        x.call(routine, called);
    }

    static void call(StepsAhead x, int routine, int called, int[] x0) {
        call(x, routine, called, x0, ZERO);
    }

    static void calls(StepsAhead x, int routine, int called, int[] x0, int times) {
        first(x, x0);
        second(x, ZERO);
        for (int i = 0; i < times; i++) {
            x.call(routine, called);
        }
    }

    static void works(StepsAhead x, int routine, int ops) {
        for (int i = 0; i < ops; i++) {
            x.work(routine, 1);
        }
    }

    static void empty(StepsAhead x, int routine) {
        for (int i = 0; i < 24; i++) {
            x.back(routine);
        }
    }

    static void addEmptyEither(StepsAhead x, int routine) {
        x.either(routine);
        x.close(routine, OR);
        x.close(routine, DONE);
    }

    /** An either of one work or another; 0 is none. */
    static void addChoice(StepsAhead x, int routine, int c, int other) {
        x.either(routine);
        x.work(routine, c);
        x.close(routine, OR);
        x.work(routine, other);
        x.close(routine, DONE);
    }

    /** A loop of x0 rounds, each with an either of 0 and some steps. */
    static StepsAhead coins(int c) {
        StepsAhead x = withRoutines(1);
        addCoins(x, 0, c);
        return x;
    }

    static void addCoins(StepsAhead x, int routine, int c) {
        loop(x, routine, X0);
        addChoice(x, routine, 0, c);
        x.close(routine, END);
    }

    /** The lot that comes next, by arithmetic without a wrap-around. */
    static int nextLot(int lot) {
        return (int) (((lot & 0xffffffffL) * 1103515245L + 12345L) % 0x100000000L);
    }

    static boolean tellsSecond(int lot) {
        return (lot & 0xffffffffL) / 65536 % 2 == 1;
    }

    /** What 20 rounds of coins take from a lot on. */
    static int coinSteps(int lot, int c) {
        return 40 + c * Integer.bitCount(choicesFrom(lot));
    }

    /** The next 20 choices from a lot on, a bit each: a lot that is one further tells others. */
    static int choicesFrom(int lot) {
        int choices = 0;
        int next = lot;
        for (int i = 0; i < 20; i++) {
            next = nextLot(next);
            choices = choices * 2 + (tellsSecond(next) ? 1 : 0);
        }
        return choices;
    }

    /** The next 20 choices of a routine with coins, which stand for an object's lot. */
    static int choicesOf(StepsAhead x, int routine) {
        int choices = 0;
        for (int i = 0; i < 20; i++) {
            choices = choices * 2 + (x.worth(routine, 1, 0, 2) > 2 ? 1 : 0);
        }
        return choices;
    }

    /** Routine 0 is empty; routine 1 has one op of each kind, within a loop but for the first. */
    static StepsAhead allKinds() {
        StepsAhead x = withRoutines(2);
        first(x, 1, 0, 2, 0, 0, 1);
        second(x, 0, 1, 1, 1, 0, 0);
        x.work(1, 42);
        x.loop(1);
        x.call(1, 0);
        x.either(1);
        x.close(1, OR);
        x.close(1, DONE);
        x.close(1, END);
        return x;
    }

    /** Either 1/2 x0^2 + 3/2 x0 steps or 5 x0. */
    static StepsAhead halves() {
        StepsAhead x = withRoutines(1);
        x.either(0);
        loop(x, 0, X0);
        loop(x, 0, I0);
        closeLoops(x, 0, 2);
        x.close(0, OR);
        loop(x, 0, X0);
        x.work(0, 4);
        x.close(0, END);
        x.close(0, DONE);
        return x;
    }

    /** Three loops within one another, each of an end. */
    static void addThreeLoops(StepsAhead x, int routine, int[] end) {
        for (int i = 0; i < 3; i++) {
            loop(x, routine, end);
        }
        closeLoops(x, routine);
    }

    /** A loop of x0 rounds; each calls with its own number as x0. */
    static void sumOfCalls(StepsAhead x, int routine, int called) {
        loop(x, routine, X0);
        call(x, routine, called, I0);
        x.close(routine, END);
    }

    /**
     * Routine 0 takes x0 + x0^2 + x0^3 steps, routine 1 takes 2 x0 + x0^2 + x0^3 + x0^4, and routine 2
     * the sum of 2 + 2 i + i^2 + i^3 + i^4 for i up to x0. Routines 3 to 7 are empty.
     */
    static StepsAhead fourthPowers() {
        StepsAhead x = withRoutines(8);
        addThreeLoops(x, 0, X0);
        loop(x, 1, X0);
        call(x, 1, 0, X0);
        x.close(1, END);
        sumOfCalls(x, 2, 1);
        return x;
    }

    /** Of 20 and 7: 20 rounds of 27 rounds of 36 rounds, in all 20 * (1 + 27 * (1 + 36)) = 20000. */
    static void addTwentyThousandRounds(StepsAhead x, int routine) {
        first(x, 0, 1, 0, 0, 0, 0);
        x.loop(routine);
        first(x, 0, 1, 1, 0, 0, 0);
        x.loop(routine);
        first(x, 2, 1, 2, 0, 0, 0);
        x.loop(routine);
        closeLoops(x, routine);
    }

    /** Of routines 0 to 3 each but the first calls the one ahead 20 times: routine 3 takes 1000000 steps. */
    static StepsAhead million() {
        StepsAhead x = withRoutines(8);
        addMillion(x, 0, 20);
        return x;
    }

    /** Four routines; the last of them takes 999980 steps and a work more. */
    static void addMillion(StepsAhead x, int from, int rest) {
        x.work(from, 99);
        x.work(from, 24);
        int[] rests = {0, 18, 18, rest};
        for (int i = 1; i < 4; i++) {
            calls(x, from + i, from + i - 1, ZERO, 20);
            x.work(from + i, rests[i]);
        }
    }

    /** Routine 1 has a term for each pair of powers that are 5 together at most, 21 in all. */
    static StepsAhead allTerms() {
        StepsAhead x = withRoutines(3);
        int[] end = {2, 2, 2, 0, 0, 0};
        addThreeLoops(x, 0, end);
        loop(x, 1, end);
        loop(x, 1, end);
        call(x, 1, 0, end, end);
        closeLoops(x, 1, 2);
        return x;
    }

    /**
     * Routine from + 2 is a sum over i up to x0, whose fraction of x0 comes from below: by one call
     * (c = 0: no work) it is -52/5 and c, by five it is -56 and c; routine from + 3 is either that or nothing.
     */
    static void addSumBelowZero(StepsAhead x, int from, int calls, int c) {
        loop(x, from, TWICE_X0);
        x.close(from, END);
        for (int i = 0; i < 3; i++) {
            loop(x, from + 1, TWICE_X0);
        }
        call(x, from + 1, from, TWICE_X0);
        closeLoops(x, from + 1);
        loop(x, from + 2, X0);
        calls(x, from + 2, from + 1, TWICE_I0, calls);
        x.work(from + 2, c);
        x.close(from + 2, END);
        x.either(from + 3);
        call(x, from + 3, from + 2, X0);
        x.close(from + 3, OR);
        x.close(from + 3, DONE);
    }

    static StepsAhead sumBelowZero(int calls, int c) {
        StepsAhead x = withRoutines(8);
        addSumBelowZero(x, 0, calls, c);
        return x;
    }

    /** Loops of x0 within one another, each with some work (0: none) ahead of the next. */
    static void addLoopsOfX0(StepsAhead x, int routine, int... works) {
        for (int c : works) {
            loop(x, routine, X0);
            x.work(routine, c);
        }
        closeLoops(x, routine, works.length);
    }

    /** Sums of sums, five deep, by two routines: a 120th of what is called with 1 as x0. */
    static void addFiveSums(StepsAhead x, int routine, int called) {
        loop(x, routine, X0);
        loop(x, routine, I0);
        loop(x, routine, I1);
        call(x, routine, called, ONE);
        closeLoops(x, routine);
        loop(x, routine + 1, X0);
        loop(x, routine + 1, I0);
        call(x, routine + 1, routine, I1);
        closeLoops(x, routine + 1, 2);
    }

    /** Of the three parts of routine 3 the lesser fractions are fine, the greater ones whole. */
    static StepsAhead lowerAloneIsFull() {
        StepsAhead x = withRoutines(6);
        loop(x, 0, X0);
        loop(x, 0, I0);
        loop(x, 0, I1);
        closeLoops(x, 0);
        addLoopsOfX0(x, 1, 0, 0);
        loop(x, 2, X0);
        loop(x, 2, X0);
        loop(x, 2, X0);
        call(x, 2, 1, X0);
        closeLoops(x, 2);
        x.either(3);
        loop(x, 3, X0);
        loop(x, 3, I0);
        call(x, 3, 0, I1);
        closeLoops(x, 3, 2);
        x.close(3, OR);
        x.either(3);
        addLoopsOfX0(x, 3, 2, 1);
        call(x, 3, 2, X0);
        x.close(3, OR);
        call(x, 3, 2, X0);
        x.close(3, DONE);
        x.close(3, DONE);
        addFiveSums(x, 4, 3);
        return x;
    }
}

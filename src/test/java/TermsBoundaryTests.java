import java.util.ArrayList;
import java.util.List;
import java.util.function.ToLongFunction;

/** A test for each sentence of the document's terms that names a boundary case, begun by that sentence. */
public final class TermsBoundaryTests extends SentenceTests {
    public static void main(String[] args) {
        section("What it is");
        plain("Programs judged for how many steps they take before they are run: formulas in their inputs, from above and from below, by sums over loops, calls put in, choices; runs counted beside them, the worst and the least choices; budgets that refuse a run ahead of it; a part that is changed works on those that call it.");
        fiveHundredAndTwelveCalls();
        section("The public face");
        numbersOfTheFace();
        section("Terms");
        numbersFromZero();
        firstRefusalThatFits();
        refusedChangesNothing();
        programs();
        kindsOfOps();
        wholeAndWays();
        formulas();
        limitsOfFormulas();
        uppersAndLowers();
        fullOnes();
        asks();
        aheadOfTheCalls();
        finish();
    }

    private static void fiveHundredAndTwelveCalls() {
        sentence("An object is used for at most 512 calls after it has been made; what later calls answer is free.");
        StepsAhead x = withRoutines(8);
        int calls = 8;
        for (int i = 0; i < 7; i++) {
            loop(x, i, X0);
            x.close(i, END);
            calls += 3;
        }
        for (; calls < 509; calls += 3) {
            due("a work comes, below 512", x.work(calls % 7, 9), 2);
            due("is told ahead, below 512", x.value(calls % 7, UPPER, 20, 20), 29);
            due("and goes, below 512", x.back(calls % 7), 2);
        }
        due("the 510th", x.work(7, 99), 0);
        due("the 511th", x.work(7, 99), 1);
        due("the 512th", x.worth(7, 0, 0, 0), 2 * 99);
    }

    private static void numbersOfTheFace() {
        sentence("public static final int NONE = -1000000, BAD = -1000001, STATE = -1000002, FULL = -1000003, SPENT = -1000004, KIND = -1000005;");
        due("none", StepsAhead.NONE, NONE);
        due("bad", StepsAhead.BAD, BAD);
        due("state", StepsAhead.STATE, STATE);
        due("full", StepsAhead.FULL, FULL);
        due("spent", StepsAhead.SPENT, SPENT);
        due("kind", StepsAhead.KIND, KIND);
        plainRest();
    }

    // ---- ahead of the parts

    private static void numbersFromZero() {
        sentence("Numbers go from 0 on.");
        StepsAhead x = new StepsAhead();
        due("the first routine", x.routine(), 0);
        due("the first op", x.work(0, 3), 0);
        due("it is there", x.kind(0, 0), 1);
        due("none ahead of it", x.kind(0, -1), BAD);
        due("no routine ahead of the first", x.kind(-1, 0), BAD);
        due("the first term", x.term(0, UPPER, 0, 0), 3);
        due("none ahead of it", x.term(0, UPPER, -1, 0), BAD);
        x.ask(0, 0, 0);
        due("the first of the trace", x.trace(0), 13);
        due("none ahead of it", x.trace(-1), NONE);
    }

    /**
     * Eight routines: 0 with coins, 1 with 24 works, 2 with three loops that are open, 3 empty, 4 with x0
     * to the third, 5 with six powers of x0, so FULL, 6 with an open loop and 24 ops, 7 an open either.
     */
    private static StepsAhead refusing() {
        StepsAhead x = withRoutines(8);
        addCoins(x, 0, 10);
        works(x, 1, 24);
        loop(x, 2, X0);
        loop(x, 2, X0);
        loop(x, 2, X0);
        addThreeLoops(x, 4, X0);
        loop(x, 5, X0);
        loop(x, 5, X0);
        loop(x, 5, X0);
        call(x, 5, 4, X0);
        closeLoops(x, 5);
        loop(x, 6, X0);
        works(x, 6, 23);
        x.either(7);
        x.ask(0, 0, 1);
        first(x, 1, 0, 2, 0, 1, 0);
        second(x, 0, 1, 0, 2, 0, 1);
        return x;
    }

    private static void firstRefusalThatFits() {
        sentence("Refusals are answers, the first of these that fits: BAD (a number is not as told; there is no such thing), STATE, FULL (as told).");
        StepsAhead x = refusing();
        due("work: BAD, FULL", x.work(1, 0), BAD);
        due("call: BAD, FULL", x.call(1, 1), BAD);
        due("loop: BAD, FULL", x.loop(8), BAD);
        due("close: BAD, STATE, FULL", x.close(1, 5), BAD);
        due("close: BAD, FULL", x.close(6, 9), BAD);
        due("close: STATE, FULL", x.close(1, END), STATE);
        due("close: STATE, FULL", x.close(6, OR), STATE);
        due("told: BAD, KIND", x.told(1, 0, 6), BAD);
        badAheadOfStateAndFull(x, 2);
        badAheadOfStateAndFull(x, 5);
        due("worth: BAD, STATE", x.worth(2, 0, 0, 5), BAD);
        due("worth: BAD, STATE", x.worth(2, 21, 0, 0), BAD);
        due("allowed: FULL ahead of NONE", x.allowed(5, 0, 0, 0), FULL);
        x.either(5);
        stateAheadOfFull(x, 5);
        empty(x, 7);
        x.call(7, 2);
        x.back(5);
        x.call(7, 5);
        stateAheadOfFull(x, 7);
        StepsAhead y = withRoutines(1);
        for (int i = 0; i < 3; i++) {
            y.loop(0);
        }
        works(y, 0, 21);
        due("loop: STATE, FULL", y.loop(0), STATE);
    }

    private static void badAheadOfStateAndFull(StepsAhead x, int routine) {
        due("terms: BAD first", x.terms(routine, 2), BAD);
        due("term: BAD first, side", x.term(routine, 2, 0, 0), BAD);
        due("term: BAD first, t", x.term(routine, UPPER, -1, 0), BAD);
        due("term: BAD first, what", x.term(routine, UPPER, 0, 4), BAD);
        due("value: BAD first, side", x.value(routine, -1, 0, 0), BAD);
        due("value: BAD first, x0", x.value(routine, UPPER, 21, 0), BAD);
        due("value: BAD first, x1", x.value(routine, UPPER, 0, -1), BAD);
        due("allowed: BAD first, x0", x.allowed(routine, -1, 0, 9), BAD);
        due("allowed: BAD first, x1", x.allowed(routine, 0, 21, 9), BAD);
        due("allowed: BAD first, budget", x.allowed(routine, 0, 0, -1), BAD);
    }

    private static void stateAheadOfFull(StepsAhead x, int routine) {
        for (int side = LOWER; side <= UPPER; side++) {
            due("terms: STATE, FULL", x.terms(routine, side), STATE);
            due("term: STATE, FULL", x.term(routine, side, 0, 0), STATE);
            due("value: STATE, FULL", x.value(routine, side, 0, 0), STATE);
        }
        due("sure: STATE, FULL", x.sure(routine), STATE);
        due("allowed: STATE, FULL", x.allowed(routine, 0, 0, 9), STATE);
    }

    private static void refusedChangesNothing() {
        sentence("What is refused changes nothing, if nothing else is told.");
        unchangedBy("routine", FULL, x -> x.routine());
        unchangedBy("expression, c", BAD, x -> x.expression(0, 3, 1, 1, 1, 1, 1));
        unchangedBy("expression, a4", BAD, x -> x.expression(1, 1, 1, 1, 1, 1, -1));
        unchangedBy("expression, which", BAD, x -> x.expression(2, 1, 1, 1, 1, 1, 1));
        unchangedBy("work, no routine", BAD, x -> x.work(8, 1));
        unchangedBy("work, c", BAD, x -> x.work(3, 100));
        unchangedBy("work", FULL, x -> x.work(1, 1));
        unchangedBy("loop", BAD, x -> x.loop(8));
        unchangedBy("loop", STATE, x -> x.loop(2));
        unchangedBy("loop", FULL, x -> x.loop(1));
        unchangedBy("call, no routine", BAD, x -> x.call(8, 0));
        unchangedBy("call, itself", BAD, x -> x.call(3, 3));
        unchangedBy("call", FULL, x -> x.call(1, 0));
        unchangedBy("either", BAD, x -> x.either(8));
        unchangedBy("either", FULL, x -> x.either(1));
        unchangedBy("close, kind", BAD, x -> x.close(2, 5));
        unchangedBy("close", STATE, x -> x.close(2, OR));
        unchangedBy("close an either without or", STATE, x -> x.close(7, DONE));
        unchangedBy("close", FULL, x -> x.close(6, END));
        unchangedBy("back", BAD, x -> x.back(8));
        unchangedBy("back", STATE, x -> x.back(3));
        unchangedByQuestions();
        unchangedByRuns();
    }

    private static void unchangedByQuestions() {
        unchangedBy("kind", BAD, x -> x.kind(3, 0));
        unchangedBy("is", BAD, x -> x.is(0, 0, 9));
        unchangedBy("told", BAD, x -> x.told(0, 0, 6));
        unchangedBy("told", KIND, x -> x.told(1, 0, 0));
        unchangedBy("ask, no op", BAD, x -> x.ask(3, 0, 0));
        unchangedBy("ask, what", BAD, x -> x.ask(0, 0, 2));
        unchangedBy("trace", NONE, x -> x.trace(5));
        unchangedBy("terms", BAD, x -> x.terms(0, 2));
        unchangedBy("terms", STATE, x -> x.terms(2, UPPER));
        unchangedBy("terms", FULL, x -> x.terms(5, UPPER));
        unchangedBy("term", BAD, x -> x.term(0, UPPER, 9, 0));
        unchangedBy("term", STATE, x -> x.term(2, UPPER, 0, 0));
        unchangedBy("term", FULL, x -> x.term(5, UPPER, 0, 0));
        unchangedBy("value", BAD, x -> x.value(0, UPPER, 21, 0));
        unchangedBy("value", STATE, x -> x.value(2, UPPER, 0, 0));
        unchangedBy("value", FULL, x -> x.value(5, UPPER, 0, 0));
        unchangedBy("sure", BAD, x -> x.sure(8));
        unchangedBy("sure", STATE, x -> x.sure(2));
        unchangedBy("sure", FULL, x -> x.sure(5));
        unchangedBy("count", BAD, x -> x.count(5));
    }

    private static void unchangedByRuns() {
        unchangedBy("worth, x0", BAD, x -> x.worth(0, 21, 0, 2));
        unchangedBy("worth, way", BAD, x -> x.worth(0, 5, 0, 5));
        unchangedBy("worth", STATE, x -> x.worth(7, 5, 0, 2));
        unchangedBy("allowed, budget", BAD, x -> x.allowed(0, 5, 0, -1));
        unchangedBy("allowed", STATE, x -> x.allowed(7, 5, 0, 99));
        unchangedBy("allowed", FULL, x -> x.allowed(5, 5, 0, 99));
        unchangedBy("allowed", NONE, x -> x.allowed(0, 20, 0, 239));
    }

    /** Holds an object that refused a call against one that was never asked. */
    private static void unchangedBy(String what, long refusal, ToLongFunction<StepsAhead> call) {
        StepsAhead x = refusing();
        due(what + " is refused", call.applyAsLong(x), refusal);
        List<Long> seen = allThatIsSeen(x);
        List<Long> before = allThatIsSeen(refusing());
        for (int i = 0; i < before.size(); i++) {
            due(what + " changes nothing, answer " + i, seen.get(i), before.get(i));
        }
    }

    private static List<Long> allThatIsSeen(StepsAhead x) {
        List<Long> seen = new ArrayList<>();
        for (int i = 0; i < 6; i++) {
            seen.add((long) x.trace(i));
        }
        for (int what = 0; what < 5; what++) {
            seen.add((long) x.count(what));
        }
        for (int routine = 0; routine < 8; routine++) {
            for (int op = 0; op == 0 || x.kind(routine, op - 1) != BAD; op++) {
                seen.add((long) x.kind(routine, op));
            }
            seen.add(x.value(routine, UPPER, 2, 3));
            seen.add((long) x.terms(routine, LOWER));
        }
        // the lot is seen by a run, both expressions by ops that get them, what is open by what may close it
        seen.add((long) choicesOf(x, 0));
        seen.add((long) x.loop(3));
        for (int which = 0; which < 6; which++) {
            seen.add((long) x.told(3, 0, which));
        }
        x.close(3, END);
        x.call(3, 0);
        seen.add((long) x.ask(3, 2, 0));
        seen.add((long) x.close(2, END));
        seen.add((long) x.close(7, OR));
        seen.add((long) x.back(6));
        seen.add((long) x.close(6, END));
        return seen;
    }

    // ---- 1

    private static void programs() {
        sentence("A PROGRAM has ROUTINES 0, 1, .. (8 at most),");
        StepsAhead x = withRoutines(7);
        due("7 are there, so 7 is not", x.either(7), BAD);
        due("the eighth", x.routine(), 7);
        due("it is there", x.either(7), 0);
        due("a ninth", x.routine(), FULL);
        due("it is not there", x.either(8), BAD);

        sentence("each with a row of OPS (24 at most)");
        for (int kind = 0; kind < 5; kind++) {
            twentyFourOps(kind);
        }

        sentence("and two inputs, x0 and x1, whole numbers of 0 or more.");
        StepsAhead y = withRoutines(2);
        loop(y, 0, X0);
        y.close(0, END);
        loop(y, 0, X1);
        y.close(0, END);
        call(y, 1, 0, new int[] {2, 2, 2, 0, 0, 0}, new int[] {1, 2, 2, 0, 0, 0});
        due("both 0", y.worth(0, 0, 0, 0), 0);
        dueValue("both 0", y, 0, 0, 0, 0);
        due("one called may have more than 20: 82 and 81", y.worth(1, 20, 20, 0), 1 + 82 + 81);
        dueValue("82 and 81", y, 1, 20, 20, 1 + 82 + 81);
        expressions();
    }

    /** Of work, loop, call, either and end: the 24th op fits, the 25th does not, another routine has its own. */
    private static void twentyFourOps(int kind) {
        StepsAhead x = withRoutines(3);
        x.loop(1);
        works(x, 1, 22);
        due("the 24th, of kind " + kind, oneMore(x, 1, kind), 23);
        due("24 are there", x.count(1), 24);
        due("a 25th, of kind " + kind, oneMore(x, 1, kind == 4 ? 0 : kind), FULL);
        due("still 24", x.count(1), 24);
        due("another routine has room", x.work(2, 1), 0);
    }

    private static int oneMore(StepsAhead x, int routine, int kind) {
        switch (kind) {
            case 0:
                return x.work(routine, 1);
            case 1:
                return x.loop(routine);
            case 2:
                return x.call(routine, 0);
            case 3:
                return x.either(routine);
            default:
                return x.close(routine, END);
        }
    }

    private static void expressions() {
        sentence("An EXPRESSION is c + a0 x0 + a1 x1 + a2 i0 + a3 i1 + a4 i2, all of c, a0 .. a4 0 to 2;");
        StepsAhead x = withRoutines(1);
        for (int factor = 0; factor < 6; factor++) {
            due("0 for " + factor, factorTold(x, factor, 0), 1);
            due("2 for " + factor, factorTold(x, factor, 2), 1);
            due("-1 for " + factor, factorTold(x, factor, -1), BAD);
            due("3 for " + factor, factorTold(x, factor, 3), BAD);
        }
        loop(x, 0, TWO);
        loop(x, 0, ONE);
        loop(x, 0, ALL_TWO);
        closeLoops(x, 0);
        // 2 rounds i, each with 1 of 1 round, each with 2 + 2 * 20 + 2 * 20 + 2 i + 2
        long most = 2 * 2 + (84 + 2) + (84 + 4);
        due("all 2, at the greatest inputs", x.worth(0, 20, 20, 0), most);
        dueValue("all 2, at the greatest inputs", x, 0, 20, 20, most);
        StepsAhead y = withRoutines(1);
        loop(y, 0, ZERO);
        y.close(0, END);
        due("all 0", y.worth(0, 20, 20, 0), 0);
        due("all 0", y.terms(0, UPPER), 0);

        sentence("i0, i1, i2 are the counters of the LOOPS around it in its ROUTINE, the outermost i0 (of those that are not there: 0).");
        innermostOf(I0, 2 + 2 + 3);
        innermostOf(I1, 2 + 2 + 2);
        innermostOf(I2, 2 + 2);
        countersThatAreNotThere();
    }

    private static int factorTold(StepsAhead x, int factor, int number) {
        int[] f = {1, 1, 1, 1, 1, 1};
        f[factor] = number;
        return x.expression(factor % 2, f[0], f[1], f[2], f[3], f[4], f[5]);
    }

    /** Two rounds of one round of a loop with this end: its own counter, i2, is not around it. */
    private static void innermostOf(int[] end, int want) {
        StepsAhead x = withRoutines(1);
        loop(x, 0, TWO);
        loop(x, 0, ONE);
        loop(x, 0, end);
        closeLoops(x, 0);
        due("three deep", x.worth(0, 0, 0, 0), want);
        dueValue("three deep", x, 0, 0, 0, want);
    }

    private static void countersThatAreNotThere() {
        StepsAhead x = withRoutines(3);
        loop(x, 0, new int[] {1, 0, 0, 2, 2, 2});
        x.close(0, END);
        due("no loop around it", x.worth(0, 9, 9, 0), 1);
        dueValue("no loop around it", x, 0, 9, 9, 1);
        loop(x, 1, TWO);
        call(x, 1, 0, I0);
        x.close(1, END);
        due("a loop of the routine that calls is none", x.worth(1, 0, 0, 0), 2 * 3);
        dueValue("a loop of the routine that calls is none", x, 1, 0, 0, 2 * 3);
        loop(x, 2, TWO);
        x.close(2, END);
        loop(x, 2, I0);
        x.close(2, END);
        due("behind its end it is gone", x.worth(2, 0, 0, 0), 2);
        dueValue("behind its end it is gone", x, 2, 0, 0, 2);
        StepsAhead y = fourthPowers();
        loop(y, 3, X0);
        call(y, 3, 2, I1);
        y.close(3, END);
        due("not in a loop's fifth powers either", y.worth(3, 5, 0, 0), 5 * 2);
        dueValue("not in a loop's fifth powers either", y, 3, 5, 0, 5 * 2);
    }

    private static void kindsOfOps() {
        plain("KINDS of OPS:");
        sentence("0 OP.");
        StepsAhead x = allKinds();
        int[] kinds = {1, 3, 4, 5, 7, 8, 6};
        for (int op = 0; op < kinds.length; op++) {
            due("each is one", x.is(1, op, 0), 1);
        }

        sentence("1 WORK, an OP: c (1 to 99) STEPS.");
        StepsAhead y = withRoutines(1);
        due("0", y.work(0, 0), BAD);
        due("100", y.work(0, 100), BAD);
        due("1", y.work(0, 1), 0);
        due("1 step", y.worth(0, 0, 0, 0), 1);
        due("99", y.work(0, 99), 1);
        due("99 steps more", y.worth(0, 0, 0, 0), 100);

        sentence("2 COUNTED, an OP: one with an EXPRESSION.");
        for (int op = 0; op < kinds.length; op++) {
            boolean counted = kinds[op] == 3 || kinds[op] == 4;
            due("loops and calls alone", x.is(1, op, 2), counted ? 1 : 0);
            due("others have none", x.told(1, op, 0) == KIND ? 0 : 1, counted ? 1 : 0);
        }
        loops();
        callsAndEithers();
    }

    private static void loops() {
        sentence("3 LOOP, COUNTED: its counter goes from 1 to the EXPRESSION, as that is when it is come to (none, if that is 0); each round is a STEP, then what stands up to its END.");
        StepsAhead x = withRoutines(3);
        loop(x, 0, X0);
        x.work(0, 5);
        x.close(0, END);
        x.work(0, 7);
        due("none", x.worth(0, 0, 9, 0), 7);
        dueValue("none", x, 0, 0, 9, 7);
        due("one", x.worth(0, 1, 9, 0), 6 + 7);
        due("the last one", x.worth(0, 20, 9, 0), 20 * 6 + 7);
        loop(x, 1, X0);
        loop(x, 1, I0);
        closeLoops(x, 1, 2);
        due("the counter is 1 in the first round", x.worth(1, 1, 0, 0), 1 + 1);
        due("and 2 in the last of two", x.worth(1, 2, 0, 0), 2 + 1 + 2);
        due("an inner loop begins anew each time", x.worth(1, 20, 0, 0), 20 + 210);
        loop(x, 2, X1);
        x.close(2, END);
        due("nothing in it", x.worth(2, 0, 20, 0), 20);
        due("nothing in it, no rounds", x.worth(2, 20, 0, 0), 0);
    }

    private static void callsAndEithers() {
        sentence("4 CALL, COUNTED, of a ROUTINE with a lesser number: a STEP, then that ROUTINE, with its x0 and x1 as two EXPRESSIONS tell.");
        StepsAhead x = withRoutines(8);
        due("the greatest that is less", x.call(7, 6), 0);
        due("the least", x.call(7, 0), 1);
        due("itself", x.call(7, 7), BAD);
        due("a greater one", x.call(6, 7), BAD);
        due("none is less than the first", x.call(0, 0), BAD);
        due("of one without ops: a step", x.worth(7, 20, 20, 0), 2);
        loop(x, 0, X0);
        x.work(0, 1);
        x.close(0, END);
        loop(x, 0, X1);
        x.close(0, END);
        call(x, 1, 0, ZERO, ZERO);
        due("both told as 0", x.worth(1, 20, 20, 0), 1);
        call(x, 2, 0, X1, X0);
        due("the other way round", x.worth(2, 3, 5, 0), 1 + 2 * 5 + 3);

        sentence("5 EITHER, an OP: a STEP, then what stands up to its OR, or what stands from there up to its DONE.");
        StepsAhead y = withRoutines(2);
        addEmptyEither(y, 0);
        addChoice(y, 1, 5, 7);
        for (int way = 0; way < 5; way++) {
            due("both parts empty", y.worth(0, 0, 0, way), 1);
        }
        due("the first part ends at the or", y.worth(1, 0, 0, 0), 6);
        due("the second begins there", y.worth(1, 0, 0, 1), 8);

        sentence("6 END, 7 OR, 8 DONE, OPS: no STEPS.");
        StepsAhead z = withRoutines(1);
        loop(z, 0, ONE);
        z.close(0, END);
        due("end", z.worth(0, 0, 0, 0), 1);
        addEmptyEither(z, 0);
        due("or, done", z.worth(0, 0, 0, 0) + z.worth(0, 0, 0, 1), 4);
        due("but ops", z.count(1), 5);

        sentence("LOOPS and EITHERS lie within one another as they are closed; LOOPS 3 deep at most.");
        withinOneAnother();
    }

    private static void withinOneAnother() {
        StepsAhead x = withRoutines(2);
        x.loop(0);
        x.either(0);
        due("the either is closed first", x.close(0, END), STATE);
        x.loop(0);
        due("the loop in it ahead of that", x.close(0, OR), STATE);
        x.close(0, END);
        x.close(0, OR);
        x.loop(0);
        x.either(0);
        due("a third, through eithers", x.loop(0), 7);
        due("a fourth", x.loop(0), STATE);
        due("an either is none", x.either(0), 8);
        due("still a fourth", x.loop(0), STATE);
        for (int i = 0; i < 8; i++) {
            x.either(1);
            x.close(1, OR);
        }
        for (int i = 0; i < 8; i++) {
            due("eight eithers within one another", x.close(1, DONE), 16 + i);
        }
        due("each is a step", x.worth(1, 0, 0, 1), 8);
        due("upper of them", x.value(1, UPPER, 0, 0), 8);
        due("lower of them", x.value(1, LOWER, 0, 0), 1);
    }

    private static void wholeAndWays() {
        sentence("A ROUTINE is WHOLE, if all LOOPS and EITHERS are closed.");
        StepsAhead x = withRoutines(1);
        due("without ops", x.count(2), 1);
        x.either(0);
        due("an either is open", x.count(2), 0);
        x.close(0, OR);
        due("an either with its or is open", x.count(2), 0);
        x.close(0, DONE);
        due("closed", x.count(2), 1);
        x.loop(0);
        addEmptyEither(x, 0);
        due("a loop further out is open", x.count(2), 0);
        x.close(0, END);
        due("all closed", x.count(2), 1);

        sentence("WORTH of a ROUTINE for inputs and a WAY: how many STEPS it takes;");
        for (int way = 0; way < 5; way++) {
            due("without ops", withRoutines(1).worth(0, 20, 20, way), 0);
        }
        plain("WAYS:");
        sentence("0 each EITHER does its first part, 1 its second one;");
        StepsAhead y = withRoutines(2);
        addChoice(y, 0, 1, 2);
        y.either(1);
        call(y, 1, 0, ZERO);
        y.close(1, OR);
        addChoice(y, 1, 10, 20);
        y.close(1, DONE);
        due("first ones, also where it calls", y.worth(1, 0, 0, 0), 1 + 1 + 1 + 1);
        due("second ones, also within", y.worth(1, 0, 0, 1), 1 + 1 + 20);
        waysByLot();
        waysOfMostAndLeast();
    }

    private static void waysByLot() {
        sentence("2 by a LOT (32 bits): as an EITHER is come to, LOT becomes LOT * 1103515245 + 12345, its bit 16 tells the second;");
        int[] nexts = {0, 0xffff, 0x10000, 0x1ffff, 0x20000, 0x8000, 0x7ffeffff, 0x7fffffff, 0x80000000, 0x80010000, 0xfffeffff, 0xffffffff};
        for (int next : nexts) {
            StepsAhead x = coins(50);
            x.lot((next - 12345) * inverse(1103515245));
            due("the next lot is " + next, x.worth(0, 1, 0, 2), 2 + (tellsSecond(next) ? 50 : 0));
            due("and it has wrapped around to that", choicesOf(x, 0), choicesFrom(next));
        }
        StepsAhead y = coins(50);
        y.lot(99);
        due("none is come to", y.worth(0, 0, 0, 2), 0);
        due("so the lot stays", choicesOf(y, 0), choicesFrom(99));
        StepsAhead z = withRoutines(2);
        addCoins(z, 0, 50);
        z.either(1);
        z.close(1, OR);
        addEmptyEither(z, 1);
        z.close(1, DONE);
        for (int lot : new int[] {(0xffff - 12345) * inverse(1103515245), (0x10000 - 12345) * inverse(1103515245)}) {
            z.lot(lot);
            boolean second = tellsSecond(nextLot(lot));
            due("one within the second part", z.worth(1, 0, 0, 2), second ? 2 : 1);
            int left = second ? nextLot(nextLot(lot)) : nextLot(lot);
            due("is come to in that alone", choicesOf(z, 0), choicesFrom(left));
        }
    }

    /** Of an odd number, by 32 bits: each turn doubles the bits that are right. */
    private static int inverse(int odd) {
        int found = odd;
        for (int turn = 0; turn < 5; turn++) {
            found *= 2 - odd * found;
        }
        return found;
    }

    private static void waysOfMostAndLeast() {
        sentence("3 the part that takes more STEPS (by WAY 3), 4 fewer (by WAY 4), the first of two alike.");
        int[][] choices = {{6, 5}, {5, 6}, {5, 5}, {1, 0}, {0, 1}, {0, 0}};
        for (int[] choice : choices) {
            StepsAhead x = withRoutines(1);
            addChoice(x, 0, choice[0], choice[1]);
            due("more, by one or none", x.worth(0, 0, 0, 3), 1 + Math.max(choice[0], choice[1]));
            due("fewer, by one or none", x.worth(0, 0, 0, 4), 1 + Math.min(choice[0], choice[1]));
        }
        StepsAhead y = withRoutines(2);
        addChoice(y, 0, 1, 9);
        y.either(1);
        call(y, 1, 0, ZERO);
        y.close(1, OR);
        y.work(1, 5);
        y.close(1, DONE);
        due("by way 3 within, too", y.worth(1, 0, 0, 3), 1 + 1 + 1 + 9);
        due("by way 4 within, too", y.worth(1, 0, 0, 4), 1 + 1 + 1 + 1);
    }

    // ---- 2

    private static void formulas() {
        sentence("A FORMULA is a sum of TERMS: a fraction, that is not 0, times a power of x0 and one of x1, ordered by the power of x0, then x1, the greater first.");
        due("no terms", withRoutines(1).terms(0, UPPER), 0);
        due("just below 0", sumBelowZero(5, 55).term(2, UPPER, 4, 0), -1);
        due("all of a power are 0 together", sumBelowZero(5, 56).terms(2, UPPER), 4);
        due("so the last is that of x0^2", sumBelowZero(5, 56).term(2, UPPER, 3, 2), 2);
        due("just above 0", sumBelowZero(5, 57).term(2, UPPER, 4, 0), 1);
        StepsAhead x = allTerms();
        int t = 0;
        for (int a = 5; a >= 0; a--) {
            for (int b = 5 - a; b >= 0; b--) {
                due("its power of x0", x.term(1, UPPER, t, 2), a);
                due("its power of x1", x.term(1, UPPER, t, 3), b);
                t++;
            }
        }
        due("no more", x.terms(1, UPPER), t);

        sentence("Within a ROUTINE FORMULAS have powers of i0, i1, i2, too.");
        StepsAhead y = fourthPowers();
        loop(y, 3, TWO);
        loop(y, 3, TWO);
        loop(y, 3, TWO);
        call(y, 3, 2, new int[] {0, 0, 0, 1, 1, 1});
        closeLoops(y, 3);
        due("five powers of all three, ahead", y.value(3, UPPER, 0, 0), y.worth(3, 0, 0, 0));
        due("all that is left is a number", y.terms(3, UPPER), 1);
        loop(y, 4, TWO);
        loop(y, 4, X0);
        call(y, 4, 2, I0);
        closeLoops(y, 4, 2);
        due("five powers of a counter", y.terms(4, UPPER), FULL);
        for (int[] end : new int[][] {TWO, X0}) {
            empty(y, 5);
            loop(y, 5, TWO);
            loop(y, 5, TWO);
            loop(y, 5, end);
            call(y, 5, 2, I2);
            closeLoops(y, 5);
            long run = y.worth(5, 2, 0, 0);
            due("five powers of the innermost one alone", y.value(5, UPPER, 2, 0), end == X0 ? FULL : run);
        }
    }

    private static void limitsOfFormulas() {
        sentence("All powers of a TERM together are 5 at most,");
        StepsAhead x = withRoutines(8);
        loop(x, 0, X0);
        loop(x, 0, X1);
        loop(x, 0, X0);
        closeLoops(x, 0);
        powersBeside(x, 1, 2, 3);
        powersBeside(x, 2, 3, FULL);
        dueTerm("five: x0^3 x1^2", x, 1, UPPER, 0, 1, 1, 3, 2);
        due("six", x.value(2, UPPER, 0, 0), FULL);
        call(x, 3, 2, ZERO);
        due("six, in one that is called with 0", x.terms(3, UPPER), FULL);

        sentence("its fraction is -10^6 to 10^6,");
        greatestFraction();
        leastFraction();

        sentence("and 8640 times as much is whole:");
        finestFraction();

        sentence("a FORMULA as told below that is not so (reckoned exactly, all of a power added up) is FULL;");
        addedUp();

        sentence("so is that of a LOOP, if what is summed has a TERM of powers that are 5 together, and its EXPRESSION is not c alone.");
        sumsOfFifthPowers();
    }

    /** Some loops, of x1, x0 and x0, around a call of routine 0, that has three powers. */
    private static void powersBeside(StepsAhead x, int routine, int loops, int want) {
        int[][] ends = {X1, X0, X0};
        for (int i = 0; i < loops; i++) {
            loop(x, routine, ends[i]);
        }
        call(x, routine, 0, X0, X1);
        closeLoops(x, routine, loops);
        due("powers together: " + (3 + loops), x.terms(routine, UPPER) == FULL ? FULL : x.term(routine, UPPER, 0, 2), want);
    }

    private static void greatestFraction() {
        StepsAhead x = million();
        dueTerm("10^6", x, 3, UPPER, 0, 1000000, 1, 0, 0);
        dueTerm("10^6", x, 3, LOWER, 0, 1000000, 1, 0, 0);
        x.work(3, 1);
        due("10^6 + 1", x.terms(3, UPPER), FULL);
        due("10^6 + 1", x.terms(3, LOWER), FULL);
        x.back(3);
        x.back(3);
        x.work(3, 19);
        loop(x, 4, X0);
        call(x, 4, 3, ZERO);
        x.close(4, END);
        due("10^6 + 1, of x0", x.terms(4, UPPER), FULL);
        x.back(3);
        x.work(3, 18);
        dueTerm("10^6, of x0", x, 4, UPPER, 0, 1000000, 1, 1, 0);
        loop(x, 4, X0);
        loop(x, 4, I0);
        closeLoops(x, 4, 2);
        due("10^6 + 3/2, of x0", x.terms(4, UPPER), FULL);
    }

    private static void leastFraction() {
        StepsAhead x = sumBelowZero(5, 31);
        dueTerm("-25 x0", x, 3, LOWER, 0, -25, 1, 1, 0);
        calls(x, 4, 3, TWICE_X0, 20);
        calls(x, 5, 4, TWICE_X0, 20);
        calls(x, 6, 5, TWICE_X0, 12);
        call(x, 6, 5, X0);
        due("two terms", x.terms(6, LOWER), 2);
        dueTerm("-10^6 x0", x, 6, LOWER, 0, -1000000, 1, 1, 0);
        due("its value", x.value(6, LOWER, 20, 0), -20000000 + x.term(6, LOWER, 1, 0));
        call(x, 7, 6, X0);
        dueTerm("-10^6 x0, of one op", x, 7, LOWER, 0, -1000000, 1, 1, 0);
        call(x, 6, 3, X0);
        due("25 less", x.terms(6, LOWER), FULL);
        due("25 less, value", x.value(6, LOWER, 20, 0), FULL);
    }

    /** An either of sums that makes a fraction of 1/24, for x0 = 1 as a number alone; the others are whole. */
    private static void addTwentyFourths(StepsAhead x) {
        loop(x, 0, X0);
        loop(x, 0, I0);
        loop(x, 0, I1);
        closeLoops(x, 0);
        x.either(1);
        sumOfCalls(x, 1, 0);
        x.close(1, OR);
        addLoopsOfX0(x, 1, 3, 1, 0);
        x.close(1, DONE);
    }

    /** The sum of 1 + i + i^2 rounds, the innermost with a call that takes 1 as x0: thirds of what is called. */
    private static void addSquares(StepsAhead x, int routine, int called) {
        loop(x, routine, X0);
        loop(x, routine, I0);
        loop(x, routine, I0);
        call(x, routine, called, ONE);
        closeLoops(x, routine);
    }

    /** Routine 2 has 72ths, so that routine 4 has the finest fractions that may be. */
    private static StepsAhead finest() {
        StepsAhead x = withRoutines(8);
        addTwentyFourths(x);
        x.either(2);
        addSquares(x, 2, 1);
        x.close(2, OR);
        addLoopsOfX0(x, 2, 3, 5);
        x.close(2, DONE);
        addFiveSums(x, 3, 2);
        return x;
    }

    private static void finestFraction() {
        StepsAhead x = finest();
        dueTerm("1/24 x0^4", x, 1, UPPER, 0, 1, 24, 4, 0);
        dueTerm("241/72 x0^3", x, 2, UPPER, 0, 241, 72, 3, 0);
        dueTerm("1177/8640 x0^5", x, 4, UPPER, 0, 1177, 8640, 5, 0);
        dueTerm("8959/1728 x0^3", x, 4, UPPER, 2, 8959, 1728, 3, 0);
        tooFineByTwo(x);
        tooFineByThree(finest());
        tooFineByFive();
    }

    private static void tooFineByTwo(StepsAhead x) {
        x.either(5);
        addSquares(x, 5, 1);
        x.close(5, OR);
        addLoopsOfX0(x, 5, 0, 5, 3);
        x.close(5, DONE);
        addFiveSums(x, 6, 5);
        dueTerm("457/144 x0", x, 5, UPPER, 2, 457, 144, 1, 0);
        dueTerm("2329/864 x0^3", x, 6, UPPER, 0, 2329, 864, 3, 0);
        due("17280ths", x.terms(7, UPPER), FULL);
    }

    private static void tooFineByThree(StepsAhead x) {
        x.either(5);
        addSquares(x, 5, 2);
        x.close(5, OR);
        addLoopsOfX0(x, 5, 4, 8);
        x.close(5, DONE);
        addSquares(x, 6, 5);
        dueTerm("1177/216 x0^3", x, 5, UPPER, 0, 1177, 216, 3, 0);
        due("648ths", x.terms(6, UPPER), FULL);
    }

    private static void tooFineByFive() {
        StepsAhead x = lowerAloneIsFull();
        dueTerm("1/120 x0^5", x, 3, LOWER, 0, 1, 120, 5, 0);
        dueTerm("701/720 x0^3", x, 4, LOWER, 0, 701, 720, 3, 0);
        due("14400ths", x.terms(5, LOWER), FULL);
    }

    private static void addedUp() {
        StepsAhead x = finest();
        // of x0^4, one power gives 1177/3456 and another 1177/1152 and 1/16: each too fine, but not together
        dueTerm("1213/864 x0^4", x, 4, UPPER, 1, 1213, 864, 4, 0);
        StepsAhead y = withRoutines(8);
        addSumBelowZero(y, 0, 1, 0);
        empty(y, 2);
        empty(y, 3);
        addMillion(y, 2, 18);
        dueTerm("999998", y, 5, UPPER, 0, 999998, 1, 0, 0);
        loop(y, 6, X0);
        call(y, 6, 5, ZERO);
        call(y, 6, 1, TWICE_I0);
        y.close(6, END);
        // of x0: 10^6 + 1 of the rounds, 2 of i, 8/3 of i^2, and -256/15 of i^4
        for (int side = LOWER; side <= UPPER; side++) {
            dueTerm("10^6 + 1 and less than nothing", y, 6, side, 4, 4999943, 5, 1, 0);
        }
        empty(y, 6);
        loop(y, 6, X0);
        call(y, 6, 5, ZERO);
        y.work(6, 1);
        y.close(6, END);
        due("10^6 + 1 of the rounds alone", y.terms(6, UPPER), FULL);
    }

    private static void sumsOfFifthPowers() {
        // counters that are not there are 0, so the fourth of them is c alone
        int[][] ends = {ZERO, ONE, TWO, {2, 0, 0, 0, 2, 1}, X0, X1, {2, 1, 0, 0, 0, 0}, {1, 0, 2, 0, 0, 0}};
        for (int i = 0; i < ends.length; i++) {
            StepsAhead x = fourthPowers();
            loop(x, 3, ends[i]);
            call(x, 3, 2, X0);
            x.close(3, END);
            loop(x, 4, TWO);
            loop(x, 4, ends[i]);
            call(x, 4, 2, I1);
            closeLoops(x, 4, 2);
            boolean cAlone = i < 4;
            due("five powers, end " + i, x.terms(3, UPPER), cAlone ? (i == 0 ? 0 : 6) : FULL);
            due("five powers of a counter, end " + i, x.terms(4, UPPER), cAlone ? 1 : FULL);
        }
        StepsAhead y = fourthPowers();
        loop(y, 3, TWO);
        loop(y, 3, I0);
        call(y, 3, 2, X0);
        closeLoops(y, 3, 2);
        due("five powers, up to a counter", y.terms(3, UPPER), FULL);
        loop(y, 4, new int[] {2, 2, 2, 0, 0, 0});
        call(y, 4, 1, I0);
        y.close(4, END);
        due("four powers, up to what is not c alone", y.terms(4, UPPER), 21);
    }

    private static void uppersAndLowers() {
        sentence("UPPER of a row of OPS: 0 for none, the sum of those of its OPS.");
        StepsAhead x = withRoutines(1);
        due("none: no terms", x.terms(0, UPPER), 0);
        dueValue("none: 0", x, 0, 20, 20, 0);

        sentence("WORK: c.");
        x.work(0, 1);
        dueTerm("the least", x, 0, UPPER, 0, 1, 1, 0, 0);
        x.back(0);
        x.work(0, 99);
        dueTerm("the most", x, 0, UPPER, 0, 99, 1, 0, 0);

        sentence("LOOP: the sum, over its counter i from 1 to the EXPRESSION e, of 1 and UPPER of what is in it, as a FORMULA (sums of powers of i are those that are right for each e from 0 on; e is put in for the end).");
        for (int powers = 0; powers <= 4; powers++) {
            sumsOfPowers(powers);
        }
        StepsAhead y = withRoutines(1);
        loop(y, 0, new int[] {2, 2, 2, 0, 0, 0});
        loop(y, 0, I0);
        closeLoops(y, 0, 2);
        dueValue("the end put in, at 0", y, 0, 0, 0, 2 + 3);
        dueValue("the end put in, at 20", y, 0, 20, 20, 82 + 82 * 83 / 2);

        sentence("CALL: 1 and UPPER of that ROUTINE, its EXPRESSIONS put in for x0, x1.");
        StepsAhead z = allTerms();
        call(z, 2, 1, ZERO, ZERO);
        dueTerm("both 0: the last term alone", z, 2, UPPER, 0, 1 + z.value(1, UPPER, 0, 0), 1, 0, 0);
        due("and no others", z.terms(2, UPPER), 1);

        sentence("EITHER: 1 and the GREATER of both parts' UPPERS: each TERM with the greater fraction of both (one without it has 0 there).");
        greaterOfBoth();

        sentence("LOWER: likewise, with the LESSER fractions.");
        lesserOfBoth();

        sentence("(So LOWER is never above the WORTH by any WAY, UPPER never below it.)");
        neverBeyond(halves(), 0);
        neverBeyond(coins(99), 0);
        neverBeyond(sumBelowZero(1, 0), 3);
        neverBeyond(finest(), 1);
        neverBeyond(finest(), 2);
        neverBeyond(lowerAloneIsFull(), 3);
        sureOnes();
    }

    /** A sum of calls, each with so many loops within one another (the fourth by a call of three). */
    private static void sumsOfPowers(int powers) {
        StepsAhead x = withRoutines(3);
        for (int i = 0; i < Math.min(powers, 3); i++) {
            loop(x, 0, X0);
        }
        closeLoops(x, 0, Math.min(powers, 3));
        if (powers == 4) {
            loop(x, 1, X0);
            call(x, 1, 0, X0);
            x.close(1, END);
        }
        sumOfCalls(x, 2, powers == 4 ? 1 : 0);
        long sum = 0;
        for (int i = 0; i <= 20; i++) {
            long round = 0;
            for (int power = 0; power < powers; power++) {
                round = i * (1 + round + (power == 3 ? 1 : 0));
            }
            sum += i == 0 ? 0 : 2 + round;
            dueValue(powers + " powers up to " + i, x, 2, i, 20, sum);
        }
    }

    private static void greaterOfBoth() {
        StepsAhead x = sumBelowZero(1, 0);
        dueTerm("-52/5 x0", x, 2, UPPER, 4, -52, 5, 1, 0);
        due("five terms", x.terms(2, UPPER), 5);
        due("0 is greater than -52/5: no x0, but a number", x.terms(3, UPPER), 5);
        dueTerm("0 is greater than -52/5", x, 3, UPPER, 4, 2, 1, 0, 0);
        StepsAhead y = halves();
        due("two and the step", y.terms(0, UPPER), 3);
        dueTerm("1/2 is greater than 0", y, 0, UPPER, 0, 1, 2, 2, 0);
        dueTerm("5 is greater than 3/2", y, 0, UPPER, 1, 5, 1, 1, 0);
        StepsAhead z = withRoutines(1);
        addChoice(z, 0, 0, 1);
        due("by one", z.value(0, UPPER, 0, 0), 2);
    }

    private static void lesserOfBoth() {
        StepsAhead x = sumBelowZero(1, 0);
        due("two terms", x.terms(3, LOWER), 2);
        dueTerm("-52/5 is less than 0", x, 3, LOWER, 0, -52, 5, 1, 0);
        dueTerm("0 is less than 1, but the step", x, 3, LOWER, 1, 1, 1, 0, 0);
        StepsAhead y = halves();
        due("one and the step", y.terms(0, LOWER), 2);
        dueTerm("3/2 is less than 5", y, 0, LOWER, 0, 3, 2, 1, 0);
        StepsAhead z = withRoutines(1);
        addChoice(z, 0, 0, 1);
        due("by one", z.value(0, LOWER, 0, 0), 1);
    }

    private static void neverBeyond(StepsAhead x, int routine) {
        for (int input = 0; input <= 20; input++) {
            long lower = x.value(routine, LOWER, input, 20 - input);
            long upper = x.value(routine, UPPER, input, 20 - input);
            for (int way = 0; way < 5; way++) {
                int worth = x.worth(routine, input, 20 - input, way);
                boolean between = worth == SPENT || lower <= worth && worth <= upper;
                due(lower + ", " + worth + ", " + upper + " for " + input, between ? 1 : 0, 1);
            }
        }
    }

    private static void sureOnes() {
        sentence("A ROUTINE is SURE, if both are the same.");
        StepsAhead x = withRoutines(1);
        due("both are 0", x.sure(0), 1);
        addChoice(x, 0, 5, 5);
        due("both parts alike", x.sure(0), 1);
        addChoice(x, 0, 5, 6);
        due("one step apart", x.sure(0), 0);
        due("fractions alike", finest().sure(0), 1);
        due("a fraction of x0 apart", finest().sure(1), 0);
    }

    private static void fullOnes() {
        sentence("FORMULAS that may be FULL are: of each OP (a LOOP, an EITHER: with what is in it),");
        StepsAhead x = refusing();
        loop(x, 3, ZERO);
        x.close(3, END);
        due("a loop without rounds", x.terms(3, UPPER), 0);
        empty(x, 6);
        loop(x, 6, ZERO);
        call(x, 6, 5, ZERO);
        x.close(6, END);
        due("a call in a loop without rounds", x.terms(6, UPPER), FULL);
        x.close(7, OR);
        call(x, 7, 5, ZERO);
        x.close(7, DONE);
        due("a part that is not the lesser one", x.terms(7, LOWER), FULL);
        due("nor is the either as a whole", x.terms(7, UPPER), FULL);
        eithersOfTenToTheSixth();
        opsBesideBelowZero(16, false, FULL);

        sentence("and of each row of OPS that is UPPER (LOWER) of something: that of its first OP, of the first two, and so on.");
        opsBesideBelowZero(15, true, FULL);
        opsBesideBelowZero(15, false, 1);
        StepsAhead y = million();
        empty(y, 3);
        loop(y, 3, ZERO);
        calls(y, 3, 2, ZERO, 20);
        y.work(3, 20);
        y.close(3, END);
        due("a row of 10^6 in a loop, with its round one more, that is no row", y.terms(3, UPPER), 0);
        y.back(3);
        y.work(3, 1);
        y.close(3, END);
        due("a row of 10^6 + 1 in a loop without rounds", y.terms(3, UPPER), FULL);
    }

    private static void eithersOfTenToTheSixth() {
        StepsAhead x = withRoutines(5);
        addMillion(x, 0, 18);
        x.either(4);
        call(x, 4, 3, ZERO);
        x.close(4, OR);
        x.close(4, DONE);
        dueTerm("999999 and the step", x, 4, UPPER, 0, 1000000, 1, 0, 0);
        x.work(3, 1);
        due("10^6 and the step", x.terms(4, UPPER), FULL);
        dueTerm("but the lesser part", x, 4, LOWER, 0, 1, 1, 0, 0);
    }

    /**
     * A row of a loop with 8 * 124998 and some steps a round, which is 10^6 x0 for c = 15, of one with
     * 8 x0, and of a call with -25 x0: behind the loops, or ahead of them.
     */
    private static void opsBesideBelowZero(int c, boolean behind, int want) {
        StepsAhead x = withRoutines(8);
        x.work(0, 99);
        x.work(0, 99);
        x.work(0, 99);
        x.work(0, 14);
        calls(x, 1, 0, ZERO, 20);
        x.work(1, 8);
        calls(x, 2, 1, ZERO, 20);
        x.work(2, 17);
        addSumBelowZero(x, 3, 5, 31);
        if (!behind) {
            call(x, 7, 6, X0);
        }
        loop(x, 7, X0);
        calls(x, 7, 2, ZERO, 8);
        x.work(7, c);
        x.close(7, END);
        loop(x, 7, X0);
        x.work(7, 7);
        x.close(7, END);
        if (behind) {
            call(x, 7, 6, X0);
        }
        if (want == FULL) {
            due("one op, or the first two", x.terms(7, LOWER), FULL);
        } else {
            dueTerm("10^6 + 8 - 25", x, 7, LOWER, 0, 999983, 1, 1, 0);
        }
    }

    // ---- 3

    private static void dueAsk(String what, StepsAhead x, int routine, int op, int ask, int want, int... bodies) {
        due(what, x.ask(routine, op, ask), want);
        for (int i = 0; i < bodies.length; i++) {
            due(what + ", body " + i, x.trace(i), bodies[i]);
        }
        due(what + ", no more bodies", x.trace(bodies.length), NONE);
    }

    private static void asks() {
        sentence("ASKS, by BODIES, each of which leaves its number in THE TRACE as it begins (the first 16):");
        StepsAhead x = allKinds();
        x.ask(1, 1, 1);
        int[] longest = {22, 21, 20, 11, 10};
        for (int i = 0; i < 18; i++) {
            due("as it begins, not as it ends; no ask comes to 16", x.trace(i), i < 5 ? longest[i] : NONE);
        }

        sentence("0 SIZE: 10 lent to all OPS: 1.");
        for (int op = 3; op < 7; op++) {
            dueAsk("of those without a body of their own", x, 1, op, 0, 1, 10);
        }

        sentence("11 of COUNTED ones: what 10 gives, and how many of c, a0 .. a4 are not 0 (of a CALL: of its first EXPRESSION).");
        StepsAhead y = withRoutines(8);
        loop(y, 7, ZERO);
        loop(y, 7, ALL_TWO);
        loop(y, 7, I2);
        dueAsk("none of six", y, 7, 0, 0, 1, 11, 10);
        dueAsk("all six", y, 7, 1, 0, 1 + 6, 11, 10);
        dueAsk("a4 alone", y, 7, 2, 0, 1 + 1, 11, 10);

        sentence("12 of CALLS: what 11 gives, and the same of the second one.");
        call(y, 7, 0, ZERO, ZERO);
        call(y, 7, 6, ALL_TWO, ALL_TWO);
        call(y, 7, 5, ZERO, ALL_TWO);
        dueAsk("none of twelve", y, 7, 3, 0, 1, 12, 11, 10);
        dueAsk("all twelve", y, 7, 4, 0, 1 + 6 + 6, 12, 11, 10);
        dueAsk("the second ones alone", y, 7, 5, 0, 1 + 6, 12, 11, 10);

        sentence("13 of WORKS: c.");
        y.work(0, 1);
        y.work(0, 99);
        dueAsk("the least", y, 0, 0, 0, 1, 13);
        dueAsk("the most", y, 0, 1, 0, 99, 13);
        marks(y);
    }

    private static void marks(StepsAhead y) {
        sentence("1 MARK: 20 lent to all OPS: its place.");
        works(y, 0, 22);
        dueAsk("the first", y, 0, 0, 1, 0, 20);
        dueAsk("the last of 24", y, 0, 23, 1, 23, 20);

        sentence("21 of COUNTED ones: what 20 gives, and SIZE.");
        dueAsk("a size of 1, and 1 deep", y, 7, 0, 1, 0 + 1 + 1, 22, 21, 20, 11, 10);
        dueAsk("a size of 7, and 2 deep", y, 7, 1, 1, 1 + 7 + 2, 22, 21, 20, 11, 10);

        sentence("22 of LOOPS: what 21 gives, and how deep it is (1 to 3).");
        dueAsk("3 deep", y, 7, 2, 1, 2 + 2 + 3, 22, 21, 20, 11, 10);
        closeLoops(y, 7);
        loop(y, 7, ZERO);
        dueAsk("1 deep behind three that are closed", y, 7, 9, 1, 9 + 1 + 1, 22, 21, 20, 11, 10);

        sentence("23 of CALLS: the ROUTINE that is called.");
        dueAsk("the least", y, 7, 3, 1, 0, 23);
        dueAsk("the greatest", y, 7, 4, 1, 6, 23);

        sentence("24 of EITHERS: what 20 gives, twice.");
        StepsAhead z = withRoutines(1);
        for (int i = 0; i < 24; i++) {
            z.either(0);
        }
        dueAsk("the first", z, 0, 0, 1, 0, 24, 20);
        dueAsk("the last of 24", z, 0, 23, 1, 46, 24, 20);

        sentence("(Of an ask the BODY told for the KIND begins, else that of the nearest KIND that it is, too, else the one that is lent; SIZE within another one is asked of the same OP anew.)");
        StepsAhead x = allKinds();
        dueAsk("told for the kind: a call's mark", x, 1, 2, 1, 0, 23);
        dueAsk("told for the nearest: a loop's size", x, 1, 1, 0, 4, 11, 10);
        dueAsk("lent: a work's mark", x, 1, 0, 1, 0, 20);
        dueAsk("asked anew: a loop's mark", x, 1, 1, 1, 1 + 4 + 1, 22, 21, 20, 11, 10);
    }

    private static void aheadOfTheCalls() {
        plain("Ahead of the calls `routine`, `expression`, `work`, `loop`, `call`, `either`, `close`, `back`, `kind`, `is`, `told`, `ask`, `trace` the interface says: ---- programs.");
        sentence("Ahead of the calls `terms`, `term`, `value`, `sure` the interface says: ---- formulas (side: 0 LOWER, 1 UPPER; of all: BAD; STATE: it, or one that it calls, is not WHOLE; FULL as told).");
        StepsAhead x = withRoutines(4);
        addChoice(x, 0, 1, 2);
        call(x, 1, 0, ZERO);
        call(x, 2, 1, ZERO);
        for (int routine = 0; routine < 3; routine++) {
            due("side 0", x.value(routine, 0, 0, 0), 2 + routine);
            due("side 1", x.value(routine, 1, 0, 0), 3 + routine);
            due("side 2", x.value(routine, 2, 0, 0), BAD);
            due("side -1", x.value(routine, -1, 0, 0), BAD);
        }
        x.loop(0);
        for (int routine = 0; routine < 3; routine++) {
            stateOfAll(x, routine);
        }
        due("but one that does not call it", x.sure(3), 1);
        StepsAhead y = refusing();
        due("full: terms", y.terms(5, LOWER), FULL);
        due("full: term", y.term(5, LOWER, 0, 0), FULL);
        due("full: value", y.value(5, LOWER, 0, 0), FULL);
        due("full: sure", y.sure(5), FULL);
        StepsAhead z = lowerAloneIsFull();
        due("full: lower", z.terms(5, LOWER), FULL);
        due("not full: upper", z.terms(5, UPPER), 5);
        plain("Ahead of the calls `worth`, `lot`, `allowed`, `count` the interface says: ---- runs.");
    }

    private static void stateOfAll(StepsAhead x, int routine) {
        due("it, or one called, is open: terms", x.terms(routine, UPPER), STATE);
        due("it, or one called, is open: term", x.term(routine, UPPER, 0, 0), STATE);
        due("it, or one called, is open: value", x.value(routine, LOWER, 0, 0), STATE);
        due("it, or one called, is open: sure", x.sure(routine), STATE);
    }
}

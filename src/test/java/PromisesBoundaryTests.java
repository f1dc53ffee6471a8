/** A test for each sentence of promises 1 to 22 that names a boundary case, begun by that sentence. */
public final class PromisesBoundaryTests extends SentenceTests {
    private static final int LEAST = Integer.MIN_VALUE, MOST = Integer.MAX_VALUE;
    /** Numbers that are no routine of eight. */
    private static final int[] NO_ROUTINE = {LEAST, -1, 8, 9, MOST};

    public static void main(String[] args) {
        promise1NewObject();
        promise2Routine();
        promise3Expression();
        promise4Work();
        promise5Loop();
        promise6Call();
        promise7Either();
        promise8Close();
        promise9Back();
        promise10Kind();
        promise11Is();
        promise12Told();
        promise13Ask();
        promise14Trace();
        promise15Terms();
        promise16Term();
        promise17Value();
        promise18Sure();
        promise19Worth();
        promise20Lot();
        promise21Allowed();
        promise22Count();
        finish();
    }

    /** Next to both ends of what may be told, and as far off as can be. */
    private static int[] outside(int least, int most) {
        return new int[] {LEAST, least - 1, most + 1, MOST};
    }

    private static void promise1NewObject() {
        section("Promise 1: A new object");
        plain("`StepsAhead()`:");
        sentence("No ROUTINES;");
        StepsAhead x = new StepsAhead();
        for (int what = 0; what < 5; what++) {
            due("none of count " + what, x.count(what), 0);
        }
        due("no routine 0: work", x.work(0, 1), BAD);
        due("no routine 0: call", x.call(0, 0), BAD);
        due("no routine 0: back", x.back(0), BAD);
        due("no routine 0: sure", x.sure(0), BAD);
        due("no routine 0: worth", x.worth(0, 0, 0, 0), BAD);
        due("an empty trace", x.trace(0), NONE);
        due("the first one", x.routine(), 0);
        StepsAhead y = withRoutines(8);
        due("another object has its own", new StepsAhead().count(0), 0);
        due("as this one", y.count(0), 8);

        sentence("LOT is 1.");
        due("as if told", choicesOf(coins(9), 0), choicesFrom(1));
        StepsAhead z = coins(9);
        z.worth(0, 20, 0, 2);
        due("in a new object again", choicesOf(coins(9), 0), choicesFrom(1));
    }

    private static void promise2Routine() {
        section("Promise 2: routine");
        plain("`int routine()`:");
        sentence("A ROUTINE without OPS: its number.");
        StepsAhead x = new StepsAhead();
        for (int i = 0; i < 8; i++) {
            due("its number", x.routine(), i);
            due("no op", x.kind(i, 0), BAD);
            due("nothing to take back", x.back(i), STATE);
        }
        due("no ops of all", x.count(1), 0);

        sentence("FULL: 8.");
        due("a ninth", x.routine(), FULL);
        due("again", x.routine(), FULL);
        due("eight", x.count(0), 8);
    }

    private static void promise3Expression() {
        section("Promise 3: expression");
        plain("`int expression(int which, int c, int a0, int a1, int a2, int a3, int a4)`:");
        sentence("THE EXPRESSION is told: first (which = 0) or second (1) for the next LOOP, CALL; they stay till told anew (at first all 0): 1.");
        StepsAhead x = withRoutines(2);
        x.call(1, 0);
        for (int i = 0; i < 6; i++) {
            due("at first all 0: the first", x.told(1, 0, i), 0);
        }
        due("at first all 0: both", x.ask(1, 0, 0), 1);
        due("all 2", x.expression(0, 2, 2, 2, 2, 2, 2), 1);
        due("all 2", x.expression(1, 2, 2, 2, 2, 2, 2), 1);
        x.loop(1);
        x.call(1, 0);
        x.call(1, 0);
        due("the loop has the first", x.ask(1, 1, 0), 7);
        due("the call has both", x.ask(1, 2, 0), 13);
        due("they stay", x.ask(1, 3, 0), 13);
        due("one of them told anew", x.expression(0, 0, 0, 0, 0, 0, 0), 1);
        x.call(1, 0);
        due("the other one stays", x.ask(1, 4, 0), 7);
        due("what an op has is its own", x.ask(1, 3, 0), 13);

        sentence("BAD.");
        for (int which : outside(0, 1)) {
            due("which is " + which, x.expression(which, 0, 0, 0, 0, 0, 0), BAD);
        }
        for (int i = 0; i < 6; i++) {
            for (int factor : outside(0, 2)) {
                int[] f = {1, 1, 1, 1, 1, 1};
                f[i] = factor;
                due("factor " + i + " is " + factor, x.expression(0, f[0], f[1], f[2], f[3], f[4], f[5]), BAD);
                due("factor " + i + " is " + factor, x.expression(1, f[0], f[1], f[2], f[3], f[4], f[5]), BAD);
            }
        }
        x.call(1, 0);
        due("and nothing is told", x.ask(1, 5, 0), 7);
    }

    private static void promise4Work() {
        section("Promise 4: work");
        plain("`int work(int routine, int c)`:");
        sentence("WORK comes behind the OPS of a ROUTINE: its place.");
        StepsAhead x = withRoutines(8);
        for (int i = 0; i < 24; i++) {
            due("its place", x.work(7, 1 + i % 2 * 98), i);
        }
        due("all of them", x.worth(7, 0, 0, 0), 1200);

        sentence("BAD: ROUTINE, c;");
        for (int routine : NO_ROUTINE) {
            due("no routine " + routine, x.work(routine, 1), BAD);
        }
        for (int c : outside(1, 99)) {
            due("c is " + c, x.work(0, c), BAD);
        }
        due("1", x.work(0, 1), 0);
        due("99", x.work(0, 99), 1);

        sentence("FULL: 24 OPS.");
        due("a 25th", x.work(7, 1), FULL);
        x.back(7);
        due("23 are there", x.work(7, 1), 23);
        due("24 again", x.work(7, 1), FULL);
    }

    private static void promise5Loop() {
        section("Promise 5: loop");
        plain("`int loop(int routine)`:");
        sentence("A LOOP, with the first EXPRESSION: its place.");
        StepsAhead x = withRoutines(8);
        first(x, 0, 2, 1, 0, 0, 0);
        second(x, 1, 0, 0, 1, 1, 1);
        due("the first place", x.loop(7), 0);
        for (int i = 0; i < 6; i++) {
            due("its expression", x.told(7, 0, i), new int[] {0, 2, 1, 0, 0, 0}[i]);
        }
        works(x, 6, 23);
        due("the last place", x.loop(6), 23);

        sentence("BAD;");
        for (int routine : NO_ROUTINE) {
            due("no routine " + routine, x.loop(routine), BAD);
        }

        sentence("STATE: it would be the fourth that is not closed;");
        due("the second", x.loop(7), 1);
        due("the third", x.loop(7), 2);
        due("the fourth", x.loop(7), STATE);
        x.either(7);
        due("the fourth, in an either", x.loop(7), STATE);
        x.close(7, OR);
        due("the fourth, behind an or", x.loop(7), STATE);
        x.close(7, DONE);
        x.close(7, END);
        due("one is closed", x.loop(7), 7);
        due("the fourth again", x.loop(7), STATE);
        x.back(7);
        due("one is gone", x.loop(7), 7);
        x.back(7);
        x.back(7);
        due("its end is gone, so it is open again", x.loop(7), STATE);

        sentence("FULL.");
        due("24 ops", x.loop(6), FULL);
        x.back(6);
        due("23 ops", x.loop(6), 23);
    }

    private static void promise6Call() {
        section("Promise 6: call");
        plain("`int call(int routine, int called)`:");
        sentence("A CALL of a ROUTINE, with both EXPRESSIONS: its place.");
        StepsAhead x = withRoutines(8);
        loop(x, 0, X0);
        x.close(0, END);
        loop(x, 0, X1);
        x.work(0, 1);
        x.close(0, END);
        first(x, 2, 2, 2, 0, 0, 0);
        second(x, 0, 0, 0, 0, 0, 0);
        due("the first place", x.call(7, 0), 0);
        due("the greatest that there can be, and 0", x.worth(7, 20, 20, 0), 1 + 82);
        first(x, 0, 0, 0, 0, 0, 0);
        second(x, 2, 2, 2, 0, 0, 0);
        due("the next place", x.call(7, 0), 1);
        due("0, and the greatest that there can be", x.worth(7, 20, 20, 0), 1 + 82 + 1 + 2 * 82);
        works(x, 6, 23);
        due("the last place", x.call(6, 5), 23);

        sentence("BAD: ROUTINE; the one called is none, or not less;");
        for (int routine : NO_ROUTINE) {
            due("no routine " + routine, x.call(routine, 0), BAD);
            due("none is called: " + routine, x.call(7, routine), BAD);
        }
        due("itself", x.call(5, 5), BAD);
        due("a greater one", x.call(5, 6), BAD);
        due("one less", x.call(5, 4), 0);
        due("the first calls none", x.call(0, 0), BAD);
        StepsAhead y = withRoutines(1);
        due("one that is not yet there", y.call(1, 0), BAD);
        y.routine();
        due("now it is", y.call(1, 0), 0);

        sentence("FULL.");
        due("24 ops", x.call(6, 5), FULL);
        x.back(6);
        due("23 ops", x.call(6, 5), 23);
    }

    private static void promise7Either() {
        section("Promise 7: either");
        plain("`int either(int routine)`:");
        sentence("An EITHER: its place.");
        StepsAhead x = withRoutines(8);
        for (int i = 0; i < 24; i++) {
            due("its place, however deep", x.either(7), i);
        }

        sentence("BAD;");
        for (int routine : NO_ROUTINE) {
            due("no routine " + routine, x.either(routine), BAD);
        }

        sentence("FULL.");
        due("24 ops", x.either(7), FULL);
        x.back(7);
        due("23 ops", x.either(7), 23);
    }

    private static void promise8Close() {
        section("Promise 8: close");
        plain("`int close(int routine, int kind)`:");
        sentence("END, OR, DONE (6, 7, 8) for what is to be closed next: its place.");
        StepsAhead x = withRoutines(8);
        x.loop(7);
        due("end", x.close(7, 6), 1);
        x.either(7);
        due("or", x.close(7, 7), 3);
        due("done", x.close(7, 8), 4);
        x.loop(6);
        works(x, 6, 22);
        due("the last place", x.close(6, 6), 23);

        sentence("BAD: ROUTINE, kind;");
        x.loop(5);
        for (int routine : NO_ROUTINE) {
            due("no routine " + routine, x.close(routine, 6), BAD);
        }
        for (int kind : outside(6, 8)) {
            due("kind " + kind, x.close(5, kind), BAD);
        }

        sentence("STATE: the innermost that is not closed is another one (OR: an EITHER without OR; DONE: one with OR; END: a LOOP);");
        onlyCloses(withRoutines(1), "nothing is open", 0);
        StepsAhead y = withRoutines(1);
        y.loop(0);
        y.either(0);
        onlyCloses(y, "an either without or, in a loop", OR);
        y.close(0, OR);
        onlyCloses(y, "an either with or", DONE);
        y.loop(0);
        onlyCloses(y, "a loop behind an or", END);
        y.close(0, END);
        onlyCloses(y, "the either again", DONE);
        y.close(0, DONE);
        onlyCloses(y, "the loop around it", END);
        y.close(0, END);
        onlyCloses(y, "nothing is open again", 0);

        sentence("FULL.");
        StepsAhead z = withRoutines(3);
        z.loop(0);
        works(z, 0, 23);
        due("24 ops: end", z.close(0, END), FULL);
        z.either(1);
        works(z, 1, 23);
        due("24 ops: or", z.close(1, OR), FULL);
        z.either(2);
        z.close(2, OR);
        works(z, 2, 22);
        due("24 ops: done", z.close(2, DONE), FULL);
        z.back(2);
        due("23 ops: done", z.close(2, DONE), 23);
    }

    /** Of the three kinds this one alone fits; it is taken back. */
    private static void onlyCloses(StepsAhead x, String what, int fits) {
        int ops = x.count(1);
        for (int kind = END; kind <= DONE; kind++) {
            due(what + ", kind " + kind, x.close(0, kind), kind == fits ? ops : STATE);
            if (kind == fits) {
                x.back(0);
            }
        }
    }

    private static void promise9Back() {
        section("Promise 9: back");
        plain("`int back(int routine)`:");
        sentence("The last OP of a ROUTINE goes: how many there are.");
        StepsAhead x = withRoutines(8);
        works(x, 7, 24);
        for (int left = 23; left >= 0; left--) {
            due("how many there are", x.back(7), left);
            due("the last one is gone", x.kind(7, left), BAD);
        }
        x.loop(6);
        x.either(6);
        x.close(6, OR);
        x.close(6, DONE);
        x.close(6, END);
        x.back(6);
        due("an end goes: the loop is open", x.close(6, END), 4);
        x.back(6);
        x.back(6);
        due("a done goes: the either is open, with its or", x.close(6, DONE), 3);
        x.back(6);
        x.back(6);
        due("an or goes: the either is without it", x.close(6, DONE), STATE);
        due("so it may have it", x.close(6, OR), 2);
        x.back(6);
        due("an either goes", x.back(6), 1);
        due("a loop goes", x.back(6), 0);
        due("nothing is open", x.count(2), 8);
        backWorksOnCallers();

        sentence("BAD;");
        for (int routine : NO_ROUTINE) {
            due("no routine " + routine, x.back(routine), BAD);
        }

        sentence("STATE: none.");
        due("all gone", x.back(7), STATE);
        due("there never were any", x.back(0), STATE);
        due("still none", x.work(7, 1), 0);
    }

    private static void backWorksOnCallers() {
        StepsAhead x = withRoutines(3);
        works(x, 0, 2);
        call(x, 1, 0, ZERO);
        call(x, 2, 1, ZERO);
        dueValue("ahead of it", x, 2, 0, 0, 4);
        x.back(0);
        dueValue("one step less", x, 0, 0, 0, 1);
        dueValue("of one that calls, too", x, 1, 0, 0, 2);
        dueValue("and of one that calls that", x, 2, 0, 0, 3);
        x.either(0);
        due("one called is open", x.sure(2), STATE);
        due("the call goes", x.back(2), 0);
        due("so it is called no more", x.sure(2), 1);
        due("and can be run", x.worth(2, 0, 0, 0), 0);
    }

    private static void promise10Kind() {
        section("Promise 10: kind");
        plain("`int kind(int routine, int op)`:");
        sentence("The KIND of an OP (as told: 1, 3 to 8).");
        StepsAhead x = allKinds();
        int[] kinds = {1, 3, 4, 5, 7, 8, 6};
        for (int op = 0; op < kinds.length; op++) {
            due("op " + op, x.kind(1, op), kinds[op]);
        }

        sentence("BAD.");
        for (int op : outside(0, 6)) {
            due("no op " + op, x.kind(1, op), BAD);
            due("no op of none", x.kind(0, op), BAD);
        }
        for (int routine : outside(0, 1)) {
            due("no routine " + routine, x.kind(routine, 0), BAD);
        }
        StepsAhead y = withRoutines(1);
        works(y, 0, 24);
        due("the 24th", y.kind(0, 23), 1);
        due("none behind it", y.kind(0, 24), BAD);
    }

    private static void promise11Is() {
        section("Promise 11: is");
        plain("`int is(int routine, int op, int kind)`:");
        sentence("Whether an OP is of a KIND (0 .. 8): 1, 0.");
        StepsAhead x = allKinds();
        int[] kinds = {1, 3, 4, 5, 7, 8, 6};
        for (int op = 0; op < kinds.length; op++) {
            for (int kind = 0; kind <= 8; kind++) {
                boolean counted = kind == 2 && (kinds[op] == 3 || kinds[op] == 4);
                due("op " + op + " is " + kind, x.is(1, op, kind), kind == 0 || counted || kind == kinds[op] ? 1 : 0);
            }
        }

        sentence("BAD.");
        for (int kind : outside(0, 8)) {
            due("no kind " + kind, x.is(1, 0, kind), BAD);
        }
        for (int op : outside(0, 6)) {
            due("no op " + op, x.is(1, op, 0), BAD);
        }
        for (int routine : outside(0, 1)) {
            due("no routine " + routine, x.is(routine, 0, 0), BAD);
        }
    }

    private static void promise12Told() {
        section("Promise 12: told");
        plain("`int told(int routine, int op, int which)`:");
        sentence("Of an OP taken as COUNTED: c (0), a0 .. a4 (1 to 5) of its first EXPRESSION.");
        StepsAhead x = allKinds();
        for (int which = 0; which <= 5; which++) {
            int want = new int[] {1, 0, 2, 0, 0, 1}[which];
            due("of a loop: " + which, x.told(1, 1, which), want);
            due("of a call: " + which, x.told(1, 2, which), want);
        }

        sentence("BAD;");
        for (int which : outside(0, 5)) {
            due("which is " + which, x.told(1, 1, which), BAD);
        }
        for (int op : outside(0, 6)) {
            due("no op " + op, x.told(1, op, 0), BAD);
        }
        for (int routine : outside(0, 1)) {
            due("no routine " + routine, x.told(routine, 0, 0), BAD);
        }

        sentence("KIND: it is none.");
        for (int op : new int[] {0, 3, 4, 5, 6}) {
            due("op " + op, x.told(1, op, 0), KIND);
            due("op " + op, x.told(1, op, 5), KIND);
            due("op " + op + ", no such number", x.told(1, op, 6), BAD);
        }
    }

    private static void promise13Ask() {
        section("Promise 13: ask");
        plain("`int ask(int routine, int op, int what)`:");
        sentence("An ASK (0, 1) of an OP.");
        StepsAhead x = allKinds();
        due("size of the first", x.ask(1, 0, 0), 42);
        due("mark of the first", x.ask(1, 0, 1), 0);
        due("size of the last", x.ask(1, 6, 0), 1);
        due("mark of the last", x.ask(1, 6, 1), 6);

        sentence("BAD.");
        for (int what : outside(0, 1)) {
            due("what is " + what, x.ask(1, 0, what), BAD);
        }
        for (int op : outside(0, 6)) {
            due("no op " + op, x.ask(1, op, 0), BAD);
        }
        for (int routine : outside(0, 1)) {
            due("no routine " + routine, x.ask(routine, 0, 0), BAD);
        }
        due("the trace is that of the last ask", x.trace(0), 20);

        sentence("THE TRACE is empty ahead of it.");
        x.ask(1, 1, 1);
        due("five", x.trace(4), 10);
        x.ask(1, 0, 0);
        due("one", x.trace(0), 13);
        due("and no more", x.trace(1), NONE);
        due("and no more", x.trace(4), NONE);
    }

    private static void promise14Trace() {
        section("Promise 14: trace");
        plain("`int trace(int i)`:");
        sentence("Number i of THE TRACE; NONE.");
        StepsAhead x = allKinds();
        due("no ask yet", x.trace(0), NONE);
        x.ask(1, 2, 0);
        int[] bodies = {12, 11, 10};
        for (int i = 0; i < 3; i++) {
            due("number " + i, x.trace(i), bodies[i]);
        }
        for (int i : new int[] {LEAST, -1, 3, 15, 16, 17, MOST}) {
            due("no number " + i, x.trace(i), NONE);
        }
        due("it is still there", x.trace(0), 12);
    }

    /** Routine 1 has six powers of x0, so it is FULL; 2 is open, 3 calls it. */
    private static StepsAhead fullAndOpen() {
        StepsAhead x = withRoutines(8);
        addThreeLoops(x, 0, X0);
        for (int i = 0; i < 3; i++) {
            loop(x, 1, X0);
        }
        call(x, 1, 0, X0);
        closeLoops(x, 1);
        x.either(2);
        call(x, 3, 2, ZERO);
        return x;
    }

    private static void promise15Terms() {
        section("Promise 15: terms");
        plain("`int terms(int routine, int side)`:");
        sentence("How many TERMS.");
        StepsAhead x = allTerms();
        for (int side = LOWER; side <= UPPER; side++) {
            due("none", x.terms(2, side), 0);
            due("as many as there can be", x.terms(1, side), 21);
        }
        for (int side : outside(0, 1)) {
            due("no side " + side, x.terms(1, side), BAD);
        }
        for (int routine : outside(0, 2)) {
            due("no routine " + routine, x.terms(routine, UPPER), BAD);
        }
        StepsAhead y = fullAndOpen();
        for (int side = LOWER; side <= UPPER; side++) {
            due("full", y.terms(1, side), FULL);
            due("open", y.terms(2, side), STATE);
            due("calls one that is open", y.terms(3, side), STATE);
        }
    }

    private static void promise16Term() {
        section("Promise 16: term");
        plain("`long term(int routine, int side, int t, int what)`:");
        sentence("Of TERM t: 0 the upper number of its fraction, 1 the lower one (above 0), 2 the power of x0, 3 of x1.");
        dueTerm("below 0", sumBelowZero(1, 0), 3, LOWER, 0, -52, 5, 1, 0);
        dueTerm("whole, and no powers", sumBelowZero(1, 0), 3, LOWER, 1, 1, 1, 0, 0);
        StepsAhead x = allTerms();
        due("the greatest power of x0", x.term(1, UPPER, 0, 2), 5);
        due("the greatest power of x1", x.term(1, UPPER, 15, 3), 5);
        due("the last: x0", x.term(1, UPPER, 20, 2), 0);
        due("the last: x1", x.term(1, UPPER, 20, 3), 0);

        sentence("BAD as a long: t, what, too;");
        for (int t : outside(0, 20)) {
            due("no term " + t, x.term(1, UPPER, t, 0), BAD);
        }
        due("no term of none", x.term(2, UPPER, 0, 0), BAD);
        for (int what : outside(0, 3)) {
            due("what is " + what, x.term(1, UPPER, 0, what), BAD);
        }
        for (int side : outside(0, 1)) {
            due("no side " + side, x.term(1, side, 0, 0), BAD);
        }
        for (int routine : outside(0, 2)) {
            due("no routine " + routine, x.term(routine, UPPER, 0, 0), BAD);
        }

        sentence("STATE, FULL as longs.");
        StepsAhead y = fullAndOpen();
        for (int what = 0; what < 4; what++) {
            due("full", y.term(1, UPPER, 0, what), FULL);
            due("open", y.term(2, UPPER, 0, what), STATE);
            due("calls one that is open", y.term(3, LOWER, 0, what), STATE);
        }
        // how many terms there are is not known, so no t from 0 on is too great yet
        due("full, whatever t", y.term(1, UPPER, MOST, 0), FULL);
        due("open, whatever t", y.term(2, UPPER, MOST, 0), STATE);
    }

    private static void promise17Value() {
        section("Promise 17: value");
        plain("`long value(int routine, int side, int x0, int x1)`:");
        sentence("What it is for inputs 0 .. 20: the greatest whole number that is not above it (UPPER), the least that is not below it (LOWER).");
        StepsAhead x = halves();
        due("UPPER 1", x.value(0, UPPER, 0, 0), 1);
        due("UPPER 13/2", x.value(0, UPPER, 1, 0), 6);
        due("UPPER 13", x.value(0, UPPER, 2, 0), 13);
        due("LOWER 1", x.value(0, LOWER, 0, 0), 1);
        due("LOWER 5/2", x.value(0, LOWER, 1, 0), 3);
        due("LOWER 4", x.value(0, LOWER, 2, 0), 4);
        StepsAhead y = sumBelowZero(1, 0);
        due("LOWER -47/5", y.value(3, LOWER, 1, 20), -9);
        due("LOWER -51", y.value(3, LOWER, 5, 20), -51);
        due("LOWER -207", y.value(3, LOWER, 20, 20), -207);
        due("LOWER -983/5", y.value(3, LOWER, 19, 0), -196);
        StepsAhead z = allTerms();
        long end = 2 + 2 * 20 + 2 * 20;
        long called = 2 + 2 * end + 2 * end;
        long sum = end * (1 + end * (1 + 1 + called * (1 + called * (1 + called))));
        dueValue("more than an int holds", z, 1, 20, 20, sum);

        sentence("BAD as a long: inputs, too;");
        for (int input : outside(0, 20)) {
            due("x0 is " + input, x.value(0, UPPER, input, 0), BAD);
            due("x1 is " + input, x.value(0, LOWER, 0, input), BAD);
        }
        for (int side : outside(0, 1)) {
            due("no side " + side, x.value(0, side, 0, 0), BAD);
        }
        for (int routine : outside(0, 0)) {
            due("no routine " + routine, x.value(routine, UPPER, 0, 0), BAD);
        }

        sentence("STATE, FULL as longs.");
        StepsAhead full = fullAndOpen();
        for (int side = LOWER; side <= UPPER; side++) {
            due("full", full.value(1, side, 0, 0), FULL);
            due("open", full.value(2, side, 0, 0), STATE);
            due("calls one that is open", full.value(3, side, 0, 0), STATE);
        }
    }

    private static void promise18Sure() {
        section("Promise 18: sure");
        plain("`int sure(int routine)`:");
        sentence("Whether it is SURE: 1, 0.");
        StepsAhead x = withRoutines(3);
        due("without ops", x.sure(0), 1);
        addChoice(x, 0, 7, 7);
        due("a choice of two alike", x.sure(0), 1);
        addChoice(x, 1, 7, 8);
        due("one step apart", x.sure(1), 0);
        call(x, 2, 1, ZERO);
        due("calls one that is not", x.sure(2), 0);

        sentence("(Of neither side.)");
        for (int routine : outside(0, 2)) {
            due("no routine " + routine, x.sure(routine), BAD);
        }
        StepsAhead y = fullAndOpen();
        due("both sides are full", y.sure(1), FULL);
        due("open", y.sure(2), STATE);
        due("calls one that is open", y.sure(3), STATE);
        StepsAhead z = withRoutines(5);
        addMillion(z, 0, 19);
        z.either(4);
        call(z, 4, 3, ZERO);
        z.close(4, OR);
        z.close(4, DONE);
        due("the upper side is full", z.terms(4, UPPER), FULL);
        due("the lower one is not", z.terms(4, LOWER), 1);
        due("one of them is enough", z.sure(4), FULL);
        due("so is the lower one", lowerAloneIsFull().sure(5), FULL);
    }

    private static void promise19Worth() {
        section("Promise 19: worth");
        plain("`int worth(int routine, int x0, int x1, int way)`:");
        sentence("WORTH for inputs 0 .. 20 by a WAY.");
        StepsAhead x = withRoutines(2);
        loop(x, 0, X0);
        x.close(0, END);
        loop(x, 0, X1);
        x.work(0, 1);
        x.close(0, END);
        for (int way = 0; way <= 4; way++) {
            due("0 and 0", x.worth(0, 0, 0, way), 0);
            due("20 and 0", x.worth(0, 20, 0, way), 20);
            due("0 and 20", x.worth(0, 0, 20, way), 40);
            due("20 and 20", x.worth(0, 20, 20, way), 60);
            due("without ops", x.worth(1, 20, 20, way), 0);
        }

        sentence("BAD;");
        for (int input : outside(0, 20)) {
            due("x0 is " + input, x.worth(0, input, 0, 0), BAD);
            due("x1 is " + input, x.worth(0, 0, input, 0), BAD);
        }
        for (int way : outside(0, 4)) {
            due("way " + way, x.worth(0, 0, 0, way), BAD);
        }
        for (int routine : outside(0, 1)) {
            due("no routine " + routine, x.worth(routine, 0, 0, 0), BAD);
        }

        sentence("STATE: not WHOLE, likewise;");
        StepsAhead y = fullAndOpen();
        call(y, 4, 3, ZERO);
        for (int way = 0; way <= 4; way++) {
            due("open", y.worth(2, 0, 0, way), STATE);
            due("calls one that is open", y.worth(3, 0, 0, way), STATE);
            due("calls one that calls one that is open", y.worth(4, 0, 0, way), STATE);
            due("its formulas are full, but that is no matter", y.worth(1, 1, 0, way), 7);
        }
        y.close(2, OR);
        due("an either with its or is open", y.worth(3, 0, 0, 0), STATE);
        spent();
        lotOfSpent();
    }

    /** Of 20 and 7: 20 * (1 + 27 * (1 + 35)) + 20 * (1 + 22) + 56 + 22 + 1 rounds. */
    private static void addAllRoundsButOne(StepsAhead x, int routine) {
        loop(x, routine, X0);
        loop(x, routine, new int[] {0, 1, 1, 0, 0, 0});
        loop(x, routine, new int[] {1, 1, 2, 0, 0, 0});
        closeLoops(x, routine);
        loop(x, routine, X0);
        loop(x, routine, new int[] {2, 1, 0, 0, 0, 0});
        closeLoops(x, routine, 2);
        loop(x, routine, new int[] {2, 2, 2, 0, 0, 0});
        x.close(routine, END);
        loop(x, routine, new int[] {2, 1, 0, 0, 0, 0});
        x.close(routine, END);
        loop(x, routine, ONE);
        x.close(routine, END);
    }

    /** A round, a call or an either: each is come to once, and takes a step. */
    private static void addOneComing(StepsAhead x, int routine, int kind) {
        if (kind == 0) {
            loop(x, routine, ONE);
            x.close(routine, END);
        } else if (kind == 1) {
            call(x, routine, 0, ZERO);
        } else {
            addEmptyEither(x, routine);
        }
    }

    private static void spent() {
        sentence("SPENT: more than 20000 rounds, CALLS and EITHERS would be come to (of WAYS 3, 4: in both parts): at the 20001st it ends.");
        for (int kind = 0; kind < 3; kind++) {
            StepsAhead x = withRoutines(2);
            addAllRoundsButOne(x, 1);
            for (int way = 0; way <= 4; way++) {
                due("19999", x.worth(1, 20, 7, way), 19999);
            }
            addOneComing(x, 1, kind);
            for (int way = 0; way <= 4; way++) {
                due("20000, the last of kind " + kind, x.worth(1, 20, 7, way), 20000);
            }
            x.work(1, 99);
            due("work is none of them", x.worth(1, 20, 7, 0), 20099);
            x.back(1);
            addOneComing(x, 1, kind);
            for (int way = 0; way <= 4; way++) {
                due("20001, the last of kind " + kind, x.worth(1, 20, 7, way), SPENT);
            }
            due("it is not spent for other inputs", x.worth(1, 0, 0, 0), 2 + 2 + 1 + 2);
        }
        spentInBothParts();
        spentFarBeyond();
    }

    private static void spentInBothParts() {
        for (int part = 0; part < 2; part++) {
            StepsAhead x = withRoutines(1);
            addAllRoundsButOne(x, 0);
            x.either(0);
            if (part == 1) {
                x.close(0, OR);
            }
            loop(x, 0, ONE);
            x.close(0, END);
            if (part == 0) {
                x.close(0, OR);
            }
            x.close(0, DONE);
            due("20001 with the part that has a round", x.worth(0, 20, 7, part), SPENT);
            due("20000 with the other", x.worth(0, 20, 7, 1 - part), 20000);
            due("20001 in both, the more", x.worth(0, 20, 7, 3), SPENT);
            due("20001 in both, the fewer", x.worth(0, 20, 7, 4), SPENT);
        }
    }

    private static void spentFarBeyond() {
        StepsAhead x = withRoutines(8);
        addThreeLoops(x, 0, new int[] {2, 2, 2, 0, 0, 0});
        for (int routine = 1; routine < 8; routine++) {
            for (int i = 0; i < 3; i++) {
                loop(x, routine, new int[] {2, 2, 2, 0, 0, 0});
            }
            call(x, routine, routine - 1, ALL_TWO, ALL_TWO);
            closeLoops(x, routine);
        }
        for (int way = 0; way <= 4; way++) {
            due("it ends, though it would go on for ages", x.worth(7, 20, 20, way), SPENT);
        }
        due("and is as it was", x.worth(0, 0, 0, 0), 2 * (1 + 2 * (1 + 2)));
    }

    private static void lotOfSpent() {
        sentence("(LOT has gone on by WAY 2 till then.)");
        for (int eithers = 0; eithers < 3; eithers++) {
            StepsAhead x = withRoutines(2);
            addCoins(x, 0, 50);
            for (int i = 0; i < eithers; i++) {
                addEmptyEither(x, 1);
            }
            addTwentyThousandRounds(x, 1);
            addOneComing(x, 1, 0);
            addEmptyEither(x, 1);
            x.lot(5);
            int lot = 5;
            for (int i = 0; i < eithers; i++) {
                lot = nextLot(lot);
            }
            due("spent", x.worth(1, 20, 7, 2), SPENT);
            due("eithers ahead of it: " + eithers, choicesOf(x, 0), choicesFrom(lot));
            for (int way : new int[] {0, 1, 3, 4}) {
                x.lot(5);
                due("spent by another way", x.worth(1, 20, 7, way), SPENT);
                due("leaves the lot", choicesOf(x, 0), choicesFrom(5));
            }
        }
        StepsAhead y = withRoutines(2);
        addCoins(y, 0, 50);
        addAllRoundsButOne(y, 1);
        addEmptyEither(y, 1);
        y.lot(5);
        due("the 20000th is an either", y.worth(1, 20, 7, 2), 20000);
        due("it has gone on", choicesOf(y, 0), choicesFrom(nextLot(5)));
        addEmptyEither(y, 1);
        y.lot(5);
        due("the 20001st is one, too", y.worth(1, 20, 7, 2), SPENT);
        due("that is not come to", choicesOf(y, 0), choicesFrom(nextLot(5)));
    }

    private static void promise20Lot() {
        section("Promise 20: lot");
        plain("`int lot(int z)`:");
        sentence("LOT becomes z: 1.");
        for (int z : new int[] {LEAST, LEAST + 1, -65536, -1, 0, 1, 65535, 65536, MOST - 1, MOST}) {
            StepsAhead x = coins(50);
            due("lot " + z, x.lot(z), 1);
            due("from it on", choicesOf(x, 0), choicesFrom(z));
        }
        due("in a new object", new StepsAhead().lot(7), 1);
    }

    private static void promise21Allowed() {
        section("Promise 21: allowed");
        plain("`int allowed(int routine, int x0, int x1, int budget)`:");
        sentence("A run by WAY 2, if UPPER's value for the inputs is a budget or less: its WORTH;");
        StepsAhead x = coins(10);
        due("just the budget", x.allowed(0, 20, 0, 240), coinSteps(1, 10));
        int lot = 1;
        for (int i = 0; i < 20; i++) {
            lot = nextLot(lot);
        }
        due("the lot has gone on; one less than the budget", x.allowed(0, 20, 0, 241), coinSteps(lot, 10));
        due("a budget of 0", x.allowed(0, 0, 0, 0), 0);
        due("the greatest budget", x.allowed(0, 0, 0, MOST), 0);
        due("13/2 has the value 6", halves().allowed(0, 1, 0, 6), 3);

        sentence("NONE: it is more: nothing is run.");
        x.lot(5);
        due("one more than the budget", x.allowed(0, 20, 0, 239), NONE);
        due("no budget", x.allowed(0, 1, 0, 0), NONE);
        due("nothing is run", choicesOf(x, 0), choicesFrom(5));
        due("13/2 is more than 5", halves().allowed(0, 1, 0, 5), NONE);
        due("more than any budget", allTerms().allowed(1, 20, 20, MOST), NONE);

        sentence("BAD: inputs, too, a budget below 0;");
        for (int input : outside(0, 20)) {
            due("x0 is " + input, x.allowed(0, input, 0, 9), BAD);
            due("x1 is " + input, x.allowed(0, 0, input, 9), BAD);
        }
        for (int budget : new int[] {LEAST, -1}) {
            due("budget " + budget, x.allowed(0, 0, 0, budget), BAD);
        }
        for (int routine : outside(0, 0)) {
            due("no routine " + routine, x.allowed(routine, 0, 0, 9), BAD);
        }

        sentence("STATE, FULL;");
        StepsAhead y = fullAndOpen();
        due("open", y.allowed(2, 0, 0, MOST), STATE);
        due("calls one that is open", y.allowed(3, 0, 0, MOST), STATE);
        due("full, though it takes no steps", y.allowed(1, 0, 0, MOST), FULL);
        due("and a run of it takes none", y.worth(1, 0, 0, 2), 0);
        StepsAhead z = lowerAloneIsFull();
        due("the lower side is full", z.terms(5, LOWER), FULL);
        due("but the upper one counts", z.allowed(5, 0, 0, 0), 0);
        due("as it does beyond a budget", z.allowed(5, 1, 0, 0), NONE);
        allowedButSpent();
    }

    private static void allowedButSpent() {
        sentence("SPENT, as of worth().");
        StepsAhead x = withRoutines(3);
        addCoins(x, 0, 50);
        addEmptyEither(x, 1);
        addTwentyThousandRounds(x, 1);
        addTwentyThousandRounds(x, 2);
        due("20000", x.allowed(2, 20, 7, 20000), 20000);
        x.lot(5);
        due("20001, and it is more than the budget", x.allowed(1, 20, 7, 20000), NONE);
        due("20001", x.allowed(1, 20, 7, 20001), SPENT);
        due("the lot has gone on till then", choicesOf(x, 0), choicesFrom(nextLot(5)));
    }

    private static void promise22Count() {
        section("Promise 22: count");
        plain("`int count(int what)`:");
        sentence("How many: 0 ROUTINES, 1 OPS of all, 2 WHOLE ones, 3 SURE ones (of those with FORMULAS), 4 CALLS.");
        StepsAhead x = new StepsAhead();
        dueCounts("none", x, 0, 0, 0, 0, 0);
        x = withRoutines(8);
        dueCounts("eight without ops", x, 8, 0, 8, 8, 0);
        for (int routine = 1; routine < 8; routine++) {
            calls(x, routine, routine - 1, ZERO, 24);
        }
        works(x, 0, 24);
        // 24 + 24 * 24 + .. is beyond 10^6 from routine 4 on
        dueCounts("as many ops and calls as there can be", x, 8, 192, 8, 4, 168);
        x.back(0);
        x.either(0);
        dueCounts("the first is open: others are whole, but without formulas", x, 8, 192, 7, 0, 168);
        x.back(0);
        x.back(7);
        dueCounts("closed again", x, 8, 190, 8, 4, 167);
        StepsAhead y = fullAndOpen();
        dueCounts("one full, one open, one calls that", y, 8, 15, 7, 5, 2);
        dueCounts("two that differ, and one whose lower side alone is full", lowerAloneIsFull(), 6, 48, 6, 3, 6);
        addChoice(y, 7, 1, 2);
        dueCounts("one with both, that differ", y, 8, 20, 7, 4, 2);

        sentence("BAD.");
        for (int what : outside(0, 4)) {
            due("what is " + what, x.count(what), BAD);
            due("what is " + what + ", of none", new StepsAhead().count(what), BAD);
        }
    }

    private static void dueCounts(String what, StepsAhead x, int... counts) {
        for (int i = 0; i < counts.length; i++) {
            due(what + ", " + i, x.count(i), counts[i]);
        }
    }
}

/** What each promise of DOC.md asks for, by its number: ordinary inputs, edges and wrong inputs. */
public final class PromiseTests extends Programs {
    private static int asked = 0;
    private static int wrong = 0;

    public static void main(String[] args) {
        promise1NewObject();
        promise2Routine();
        promise3Expression();
        promise4Work();
        promise5Loop();
        promise6Call();
        promise7Either();
        promise8Close();
        promise9Back();
        promise10Kind();
        promise11Is();
        promise12Told();
        promise13AskSize();
        promise13AskMark();
        promise14Trace();
        promise15Terms();
        promise16Term();
        promise17Value();
        promise18Sure();
        promise19WorthByWays();
        promise19WorthSpent();
        promise20Lot();
        promise21Allowed();
        promise22Count();
        formulasThatAreFull();
        formulasThatAreNotFull();
        fractionsBelowZero();
        fractionsThatAreTooFine();
        fullThoughTheSumIsNot();
        eightWithinOneAnother();
        countersThatAreNotThere();
        changesWorkOnCallers();
        System.out.println(asked + " answers asked, " + wrong + " of them wrong");
        if (wrong != 0) {
            System.exit(1);
        }
    }

    private static void due(String what, long got, long want) {
        asked++;
        if (got != want) {
            wrong++;
            System.out.println(what + ": answered " + got + ", due is " + want);
        }
    }

    private static void dueTerm(String what, StepsAhead x, int routine, int side, int t, long... want) {
        for (int i = 0; i < 4; i++) {
            due(what + ": term " + t + "." + i, x.term(routine, side, t, i), want[i]);
        }
    }

    private static void promise1NewObject() {
        StepsAhead x = new StepsAhead();
        due("1: no routines", x.count(0), 0);
        due("1: no ops", x.count(1), 0);
        due("1: no whole ones", x.count(2), 0);
        due("1: no such routine", x.work(0, 1), BAD);
        due("1: an empty trace", x.trace(0), NONE);
        StepsAhead y = coins(12);
        StepsAhead z = coins(12);
        z.lot(1);
        due("1: the lot is 1", y.worth(0, 20, 0, 2), z.worth(0, 20, 0, 2));
    }

    private static void promise2Routine() {
        StepsAhead x = new StepsAhead();
        for (int i = 0; i < 8; i++) {
            due("2: its number", x.routine(), i);
        }
        due("2: eight at most", x.routine(), FULL);
        due("2: still eight", x.count(0), 8);
        due("2: the last one is there", x.work(7, 1), 0);
        due("2: and none behind it", x.work(8, 1), BAD);
    }

    private static void promise3Expression() {
        StepsAhead x = withRoutines(2);
        x.loop(1);
        for (int i = 0; i < 6; i++) {
            due("3: at first all 0", x.told(1, 0, i), 0);
        }
        due("3: all at most", x.expression(0, 2, 2, 2, 2, 2, 2), 1);
        due("3: all at least", x.expression(1, 0, 0, 0, 0, 0, 0), 1);
        due("3: which below", x.expression(-1, 0, 0, 0, 0, 0, 0), BAD);
        due("3: which above", x.expression(2, 0, 0, 0, 0, 0, 0), BAD);
        for (int i = 0; i < 6; i++) {
            for (int number : new int[] {-1, 3, Integer.MIN_VALUE, Integer.MAX_VALUE}) {
                int[] f = {1, 1, 1, 1, 1, 1};
                f[i] = number;
                due("3: a factor", x.expression(0, f[0], f[1], f[2], f[3], f[4], f[5]), BAD);
                due("3: a factor", x.expression(1, f[0], f[1], f[2], f[3], f[4], f[5]), BAD);
            }
        }
        x.loop(1);
        for (int i = 0; i < 6; i++) {
            due("3: what is refused changes nothing", x.told(1, 1, i), 2);
        }
        first(x, 0, 1, 2, 0, 1, 2);
        x.loop(1);
        x.close(1, END);
        x.call(1, 0);
        int[] told = {0, 1, 2, 0, 1, 2};
        for (int i = 0; i < 6; i++) {
            due("3: in their order", x.told(1, 2, i), told[i]);
            due("3: they stay", x.told(1, 4, i), told[i]);
            due("3: an op keeps its own", x.told(1, 1, i), 2);
        }
    }

    private static void promise4Work() {
        StepsAhead x = withRoutines(1);
        due("4: no such routine", x.work(1, 1), BAD);
        due("4: no such routine", x.work(-1, 1), BAD);
        due("4: c below", x.work(0, 0), BAD);
        due("4: c above", x.work(0, 100), BAD);
        due("4: c far below", x.work(0, Integer.MIN_VALUE), BAD);
        due("4: the least", x.work(0, 1), 0);
        due("4: the most", x.work(0, 99), 1);
        due("4: steps", x.worth(0, 0, 0, 0), 100);
        for (int i = 2; i < 24; i++) {
            due("4: its place", x.work(0, 5), i);
        }
        due("4: 24 ops", x.work(0, 5), FULL);
        due("4: bad ahead of full", x.work(0, 0), BAD);
        due("4: still 24", x.count(1), 24);
    }

    private static void promise5Loop() {
        StepsAhead x = withRoutines(1);
        due("5: no such routine", x.loop(1), BAD);
        due("5: no such routine", x.loop(-1), BAD);
        first(x, 2, 0, 0, 0, 0, 0);
        for (int i = 0; i < 3; i++) {
            due("5: its place", x.loop(0), i);
        }
        due("5: the fourth", x.loop(0), STATE);
        x.close(0, END);
        due("5: not the fourth", x.loop(0), 4);
        for (int i = 5; i < 24; i++) {
            x.work(0, 1);
        }
        due("5: state ahead of full", x.loop(0), STATE);
        StepsAhead y = withRoutines(1);
        for (int i = 0; i < 24; i++) {
            y.work(0, 1);
        }
        due("5: 24 ops", y.loop(0), FULL);
        StepsAhead z = withRoutines(1);
        z.loop(0);
        z.either(0);
        z.loop(0);
        z.close(0, END);
        z.close(0, OR);
        z.loop(0);
        z.either(0);
        z.loop(0);
        due("5: the fourth, through eithers", z.loop(0), STATE);
    }

    private static void promise6Call() {
        StepsAhead x = withRoutines(3);
        due("6: no such routine", x.call(3, 0), BAD);
        due("6: no such routine", x.call(-1, 0), BAD);
        due("6: none called", x.call(1, -1), BAD);
        due("6: none called", x.call(1, 3), BAD);
        due("6: itself", x.call(1, 1), BAD);
        due("6: a greater one", x.call(1, 2), BAD);
        due("6: its place", x.call(2, 0), 0);
        due("6: its place", x.call(2, 1), 1);
        due("6: a step each", x.worth(2, 0, 0, 0), 2);
        for (int i = 2; i < 24; i++) {
            x.work(2, 1);
        }
        due("6: 24 ops", x.call(2, 0), FULL);
        due("6: bad ahead of full", x.call(2, 2), BAD);
        StepsAhead y = withRoutines(2);
        first(y, 0, 1, 0, 0, 0, 0);
        y.loop(0);
        y.close(0, END);
        first(y, 0, 0, 1, 0, 0, 0);
        y.loop(0);
        y.work(0, 9);
        y.close(0, END);
        first(y, 1, 0, 2, 0, 0, 0);
        second(y, 2, 1, 0, 0, 0, 0);
        y.call(1, 0);
        due("6: both expressions", y.worth(1, 3, 5, 0), 1 + 11 + 10 * 5);
        due("6: both, ahead", y.value(1, UPPER, 3, 5), 1 + 11 + 10 * 5);
    }

    private static void promise7Either() {
        StepsAhead x = withRoutines(1);
        due("7: no such routine", x.either(1), BAD);
        due("7: no such routine", x.either(-1), BAD);
        for (int i = 0; i < 24; i++) {
            due("7: its place", x.either(0), i);
        }
        due("7: 24 ops", x.either(0), FULL);
        StepsAhead y = withRoutines(1);
        y.either(0);
        y.close(0, OR);
        y.close(0, DONE);
        due("7: a step", y.worth(0, 0, 0, 0), 1);
    }

    private static void promise8Close() {
        StepsAhead x = withRoutines(1);
        due("8: no such routine", x.close(1, END), BAD);
        due("8: a kind below", x.close(0, 5), BAD);
        due("8: a kind above", x.close(0, 9), BAD);
        for (int kind = END; kind <= DONE; kind++) {
            due("8: nothing is open", x.close(0, kind), STATE);
        }
        x.loop(0);
        due("8: a loop", x.close(0, OR), STATE);
        due("8: a loop", x.close(0, DONE), STATE);
        x.either(0);
        due("8: an either without or", x.close(0, END), STATE);
        due("8: an either without or", x.close(0, DONE), STATE);
        due("8: or", x.close(0, OR), 2);
        due("8: an either with or", x.close(0, END), STATE);
        due("8: an either with or", x.close(0, OR), STATE);
        due("8: done", x.close(0, DONE), 3);
        due("8: the loop again", x.close(0, OR), STATE);
        due("8: end", x.close(0, END), 4);
        due("8: nothing is open", x.close(0, END), STATE);
        x.loop(0);
        for (int i = 6; i < 24; i++) {
            x.work(0, 1);
        }
        due("8: state ahead of full", x.close(0, OR), STATE);
        due("8: 24 ops", x.close(0, END), FULL);
        due("8: bad ahead of state", x.close(0, 0), BAD);
    }

    private static void promise9Back() {
        StepsAhead x = withRoutines(2);
        due("9: no such routine", x.back(2), BAD);
        due("9: no such routine", x.back(-1), BAD);
        due("9: none", x.back(0), STATE);
        x.loop(1);
        x.either(1);
        x.close(1, OR);
        x.close(1, DONE);
        x.close(1, END);
        x.call(1, 0);
        due("9: a call goes", x.back(1), 5);
        due("9: no calls", x.count(4), 0);
        due("9: whole", x.count(2), 2);
        due("9: an end goes", x.back(1), 4);
        due("9: not whole", x.terms(1, UPPER), STATE);
        due("9: the loop is open", x.close(1, DONE), STATE);
        due("9: a done goes", x.back(1), 3);
        due("9: the either is open", x.close(1, END), STATE);
        due("9: it has its or", x.close(1, OR), STATE);
        due("9: an or goes", x.back(1), 2);
        due("9: it has no or", x.close(1, DONE), STATE);
        due("9: an or again", x.close(1, OR), 2);
        x.back(1);
        due("9: an either goes", x.back(1), 1);
        due("9: the loop is open", x.close(1, END), 1);
        x.back(1);
        due("9: a loop goes", x.back(1), 0);
        due("9: none", x.back(1), STATE);
        due("9: whole", x.terms(1, UPPER), 0);
        due("9: three loops fit", x.loop(1) + x.loop(1) + x.loop(1), 3);
        x.either(0);
        x.back(1);
        x.back(1);
        x.back(1);
        x.call(1, 0);
        due("9: one called is not whole", x.sure(1), STATE);
        x.back(1);
        due("9: it is called no more", x.sure(1), 1);
    }

    private static void promise10Kind() {
        StepsAhead x = allKinds();
        int[] kinds = {1, 3, 4, 5, 7, 8, 6};
        for (int i = 0; i < kinds.length; i++) {
            due("10: kind", x.kind(1, i), kinds[i]);
        }
        due("10: no such op", x.kind(1, 7), BAD);
        due("10: no such op", x.kind(1, -1), BAD);
        due("10: no such op", x.kind(0, 0), BAD);
        due("10: no such op", x.kind(1, 24), BAD);
        due("10: no such routine", x.kind(2, 0), BAD);
        due("10: no such routine", x.kind(-1, 0), BAD);
    }

    private static void promise11Is() {
        StepsAhead x = allKinds();
        int[] kinds = {1, 3, 4, 5, 7, 8, 6};
        for (int i = 0; i < kinds.length; i++) {
            for (int kind = 0; kind <= 8; kind++) {
                boolean counted = kind == 2 && (kinds[i] == 3 || kinds[i] == 4);
                due("11: op " + i + " is " + kind, x.is(1, i, kind), kind == 0 || counted || kind == kinds[i] ? 1 : 0);
            }
        }
        due("11: a kind below", x.is(1, 0, -1), BAD);
        due("11: a kind above", x.is(1, 0, 9), BAD);
        due("11: no such op", x.is(1, 7, 0), BAD);
        due("11: no such routine", x.is(2, 0, 0), BAD);
    }

    private static void promise12Told() {
        StepsAhead x = allKinds();
        int[] factors = {1, 0, 2, 0, 0, 1};
        for (int i = 0; i < 6; i++) {
            due("12: of a loop", x.told(1, 1, i), factors[i]);
            due("12: of a call, the first", x.told(1, 2, i), factors[i]);
        }
        for (int op : new int[] {0, 3, 4, 5, 6}) {
            due("12: none", x.told(1, op, 0), KIND);
            due("12: bad ahead of kind", x.told(1, op, 6), BAD);
        }
        due("12: which below", x.told(1, 1, -1), BAD);
        due("12: which above", x.told(1, 1, 6), BAD);
        due("12: no such op", x.told(1, 7, 0), BAD);
        due("12: no such routine", x.told(2, 0, 0), BAD);
    }

    private static void dueAsk(StepsAhead x, int op, int what, int want, int... bodies) {
        due("13: ask " + what + " of op " + op, x.ask(1, op, what), want);
        for (int i = 0; i < bodies.length; i++) {
            due("13: ask " + what + " of op " + op + ", body " + i, x.trace(i), bodies[i]);
        }
        due("13: ask " + what + " of op " + op + ", no more bodies", x.trace(bodies.length), NONE);
    }

    private static void promise13AskSize() {
        StepsAhead x = allKinds();
        dueAsk(x, 0, 0, 42, 13);
        dueAsk(x, 1, 0, 1 + 3, 11, 10);
        dueAsk(x, 2, 0, 1 + 3 + 3, 12, 11, 10);
        for (int op = 3; op < 7; op++) {
            dueAsk(x, op, 0, 1, 10);
        }
    }

    private static void promise13AskMark() {
        StepsAhead x = allKinds();
        dueAsk(x, 0, 1, 0, 20);
        dueAsk(x, 1, 1, 1 + 4 + 1, 22, 21, 20, 11, 10);
        dueAsk(x, 2, 1, 0, 23);
        dueAsk(x, 3, 1, 2 * 3, 24, 20);
        for (int op = 4; op < 7; op++) {
            dueAsk(x, op, 1, op, 20);
        }
        x.loop(1);
        x.loop(1);
        x.close(1, END);
        x.loop(1);
        x.loop(1);
        dueAsk(x, 7, 1, 7 + 4 + 1, 22, 21, 20, 11, 10);
        dueAsk(x, 8, 1, 8 + 4 + 2, 22, 21, 20, 11, 10);
        dueAsk(x, 10, 1, 10 + 4 + 2, 22, 21, 20, 11, 10);
        dueAsk(x, 11, 1, 11 + 4 + 3, 22, 21, 20, 11, 10);
        due("13: what below", x.ask(1, 0, -1), BAD);
        due("13: what above", x.ask(1, 0, 2), BAD);
        due("13: no such op", x.ask(1, 12, 0), BAD);
        due("13: no such routine", x.ask(2, 0, 0), BAD);
        due("13: what is refused leaves the trace", x.trace(0), 22);
    }

    private static void promise14Trace() {
        StepsAhead x = allKinds();
        x.ask(1, 1, 1);
        due("14: the last one", x.trace(4), 10);
        due("14: none behind it", x.trace(5), NONE);
        due("14: none below", x.trace(-1), NONE);
        due("14: none far above", x.trace(Integer.MAX_VALUE), NONE);
        x.ask(1, 0, 0);
        due("14: anew", x.trace(0), 13);
        due("14: anew, and no more", x.trace(1), NONE);
    }

    /** Two loops of x0 and i0 within one another around some work: a sum of squares, as a formula. */
    private static StepsAhead triangle(int c) {
        StepsAhead x = withRoutines(1);
        first(x, 0, 1, 0, 0, 0, 0);
        x.loop(0);
        first(x, 0, 0, 0, 1, 0, 0);
        x.loop(0);
        x.work(0, c);
        x.close(0, END);
        x.close(0, END);
        return x;
    }

    private static void promise15Terms() {
        StepsAhead x = triangle(2);
        due("15: lower", x.terms(0, LOWER), 2);
        due("15: upper", x.terms(0, UPPER), 2);
        due("15: side below", x.terms(0, -1), BAD);
        due("15: side above", x.terms(0, 2), BAD);
        due("15: no such routine", x.terms(1, UPPER), BAD);
        x.either(0);
        due("15: not whole", x.terms(0, UPPER), STATE);
        due("15: bad ahead of state", x.terms(0, 2), BAD);
        x.close(0, OR);
        due("15: not whole with an or", x.terms(0, UPPER), STATE);
        x.work(0, 1);
        x.close(0, DONE);
        due("15: whole", x.terms(0, UPPER), 3);
        due("15: none of no ops", withRoutines(1).terms(0, LOWER), 0);
    }

    private static void promise16Term() {
        StepsAhead x = triangle(2);
        dueTerm("16: 3/2 x0^2", x, 0, UPPER, 0, 3, 2, 2, 0);
        dueTerm("16: 5/2 x0", x, 0, UPPER, 1, 5, 2, 1, 0);
        dueTerm("16: lower too", x, 0, LOWER, 1, 5, 2, 1, 0);
        due("16: t above", x.term(0, UPPER, 2, 0), BAD);
        due("16: t below", x.term(0, UPPER, -1, 0), BAD);
        due("16: what below", x.term(0, UPPER, 0, -1), BAD);
        due("16: what above", x.term(0, UPPER, 0, 4), BAD);
        due("16: side", x.term(0, 2, 0, 0), BAD);
        due("16: no such routine", x.term(1, UPPER, 0, 0), BAD);
        x.loop(0);
        due("16: not whole", x.term(0, UPPER, 0, 0), STATE);
        due("16: what ahead of state", x.term(0, UPPER, 0, 4), BAD);
        StepsAhead y = withRoutines(1);
        first(y, 1, 1, 1, 0, 0, 0);
        y.loop(0);
        y.loop(0);
        y.close(0, END);
        y.close(0, END);
        long[][] ordered = {{1, 1, 2, 0}, {2, 1, 1, 1}, {3, 1, 1, 0}, {1, 1, 0, 2}, {3, 1, 0, 1}, {2, 1, 0, 0}};
        due("16: how many", y.terms(0, UPPER), ordered.length);
        for (int t = 0; t < ordered.length; t++) {
            dueTerm("16: ordered", y, 0, UPPER, t, ordered[t]);
        }
        dueFourthPowers();
    }

    private static void dueFourthPowers() {
        StepsAhead x = fourthPowers();
        due("16: how many", x.terms(2, UPPER), 5);
        dueTerm("16: 1/5 x0^5", x, 2, UPPER, 0, 1, 5, 5, 0);
        dueTerm("16: 3/4 x0^4", x, 2, UPPER, 1, 3, 4, 4, 0);
        dueTerm("16: 7/6 x0^3", x, 2, UPPER, 2, 7, 6, 3, 0);
        dueTerm("16: 7/4 x0^2", x, 2, UPPER, 3, 7, 4, 2, 0);
        dueTerm("16: 47/15 x0", x, 2, UPPER, 4, 47, 15, 1, 0);
    }

    private static void promise17Value() {
        StepsAhead x = fourthPowers();
        long sum = 0;
        for (int i = 0; i <= 20; i++) {
            sum += i == 0 ? 0 : 2 + 2 * i + i * i + i * i * i + i * i * i * i;
            due("17: lower, 0 to 20", x.value(2, LOWER, i, 20 - i), sum);
            due("17: upper, 0 to 20", x.value(2, UPPER, i, 20 - i), sum);
        }
        for (int input : new int[] {-1, 21, Integer.MIN_VALUE, Integer.MAX_VALUE}) {
            due("17: x0", x.value(2, UPPER, input, 0), BAD);
            due("17: x1", x.value(2, UPPER, 0, input), BAD);
        }
        due("17: side", x.value(2, 2, 0, 0), BAD);
        due("17: side", x.value(2, -1, 0, 0), BAD);
        due("17: no such routine", x.value(8, UPPER, 0, 0), BAD);
        x.loop(0);
        due("17: one called by one called is not whole", x.value(2, UPPER, 0, 0), STATE);
        due("17: bad ahead of state", x.value(2, UPPER, 0, 21), BAD);
        StepsAhead y = halves();
        dueTerm("17: upper", y, 0, UPPER, 0, 1, 2, 2, 0);
        dueTerm("17: upper", y, 0, UPPER, 1, 5, 1, 1, 0);
        dueTerm("17: lower", y, 0, LOWER, 0, 3, 2, 1, 0);
        due("17: 13/2, not above it", y.value(0, UPPER, 1, 0), 6);
        due("17: 5/2, not below it", y.value(0, LOWER, 1, 0), 3);
        due("17: 13", y.value(0, UPPER, 2, 0), 13);
        due("17: 4", y.value(0, LOWER, 2, 0), 4);
        due("17: the worst lies below", y.worth(0, 1, 0, 3), 6);
        due("17: the least lies above", y.worth(0, 1, 0, 4), 3);
    }

    private static void promise18Sure() {
        due("18: no choices", fourthPowers().sure(2), 1);
        due("18: no ops", withRoutines(1).sure(0), 1);
        due("18: a choice", halves().sure(0), 0);
        due("18: no such routine", withRoutines(1).sure(1), BAD);
        due("18: no such routine", withRoutines(1).sure(-1), BAD);
        StepsAhead x = withRoutines(2);
        x.either(0);
        x.work(0, 3);
        x.close(0, OR);
        x.work(0, 1);
        due("18: not whole", x.sure(0), STATE);
        x.work(0, 2);
        x.close(0, DONE);
        due("18: both parts alike", x.sure(0), 1);
        x.call(1, 0);
        x.either(0);
        due("18: one called is not whole", x.sure(1), STATE);
    }

    private static void promise19WorthByWays() {
        StepsAhead x = withRoutines(1);
        first(x, 0, 1, 0, 0, 0, 0);
        x.either(0);
        x.work(0, 3);
        x.either(0);
        x.work(0, 7);
        x.close(0, OR);
        x.loop(0);
        x.close(0, END);
        x.close(0, DONE);
        x.close(0, OR);
        x.work(0, 9);
        x.close(0, DONE);
        due("19: first parts", x.worth(0, 2, 0, 0), 1 + 3 + 1 + 7);
        due("19: second parts", x.worth(0, 2, 0, 1), 1 + 9);
        due("19: the most", x.worth(0, 2, 0, 3), 1 + 3 + 1 + 7);
        due("19: the most", x.worth(0, 9, 0, 3), 1 + 3 + 1 + 9);
        due("19: the least", x.worth(0, 2, 0, 4), 1 + 3 + 1 + 2);
        due("19: the least", x.worth(0, 9, 0, 4), 1 + 9);
        StepsAhead y = coins(10);
        int lot = 1;
        int steps = 0;
        for (int i = 0; i < 20; i++) {
            lot = lot * 1103515245 + 12345;
            steps += 2 + ((lot & 0x10000) != 0 ? 10 : 0);
        }
        due("19: by lot", y.worth(0, 20, 0, 2), steps);
        due("19: other ways leave the lot", y.worth(0, 20, 0, 1) + y.worth(0, 20, 0, 3), 2 * 20 * 12);
        steps = 0;
        for (int i = 0; i < 20; i++) {
            lot = lot * 1103515245 + 12345;
            steps += 2 + ((lot & 0x10000) != 0 ? 10 : 0);
        }
        due("19: the lot goes on", y.worth(0, 20, 0, 2), steps);
        due("19: x0", y.worth(0, 21, 0, 0), BAD);
        due("19: x0", y.worth(0, -1, 0, 0), BAD);
        due("19: x1", y.worth(0, 0, 21, 0), BAD);
        due("19: x1", y.worth(0, 0, -1, 0), BAD);
        due("19: way below", y.worth(0, 0, 0, -1), BAD);
        due("19: way above", y.worth(0, 0, 0, 5), BAD);
        due("19: no such routine", y.worth(1, 0, 0, 0), BAD);
        y.loop(0);
        due("19: not whole", y.worth(0, 0, 0, 0), STATE);
        due("19: bad ahead of state", y.worth(0, 0, 0, 5), BAD);
        StepsAhead z = withRoutines(3);
        z.call(1, 0);
        z.call(2, 1);
        z.either(0);
        due("19: one called by one called is not whole", z.worth(2, 0, 0, 0), STATE);
    }

    private static void promise19WorthSpent() {
        StepsAhead x = withRoutines(2);
        addTwentyThousandRounds(x, 0);
        for (int way = 0; way < 5; way++) {
            due("19: 20000 rounds", x.worth(0, 20, 7, way), 20000);
        }
        x.work(0, 99);
        due("19: work is none of them", x.worth(0, 20, 7, 0), 20099);
        first(x, 0, 1, 0, 0, 0, 0);
        second(x, 0, 0, 1, 0, 0, 0);
        x.call(1, 0);
        due("19: a call is one", x.worth(1, 20, 7, 0), SPENT);
        due("19: fewer for other inputs", x.worth(1, 20, 0, 0), 1 + 20 * (1 + 20 * (1 + 22)) + 99);
        addEmptyEither(x, 0);
        due("19: an either is one", x.worth(0, 20, 7, 0), SPENT);
        x.back(0);
        x.back(0);
        x.back(0);
        first(x, 1, 0, 0, 0, 0, 0);
        x.loop(0);
        x.close(0, END);
        due("19: a round is one", x.worth(0, 20, 7, 0), SPENT);
        due("19: it ends there, as does a run that is far too long", x.worth(0, 20, 20, 3), SPENT);
        promise19BothParts();
        promise19LotOfSpent();
    }

    /** Of 10 and 17: either 10 * (1 + 27 * (1 + 36)) = 10000 rounds, or as many, or 270 fewer. */
    private static void promise19BothParts() {
        StepsAhead x = withRoutines(1);
        x.either(0);
        for (int part = 0; part < 2; part++) {
            first(x, 0, 1, 0, 0, 0, 0);
            x.loop(0);
            first(x, 0, 1, 1, 0, 0, 0);
            x.loop(0);
            first(x, 2 - part, 0, 2, 0, 0, 0);
            x.loop(0);
            closeLoops(x, 0);
            x.close(0, part == 0 ? OR : DONE);
        }
        due("19: both parts, 19731 in all", x.worth(0, 10, 17, 3), 10001);
        due("19: both parts, 19731 in all", x.worth(0, 10, 17, 4), 9731);
        for (int i = 0; i < 5; i++) {
            x.back(0);
        }
        first(x, 2, 0, 2, 0, 0, 0);
        x.loop(0);
        closeLoops(x, 0);
        x.close(0, DONE);
        due("19: one part", x.worth(0, 10, 17, 0), 10001);
        due("19: one part", x.worth(0, 10, 17, 1), 10001);
        due("19: both parts, 20001 in all", x.worth(0, 10, 17, 3), SPENT);
        due("19: both parts, 20001 in all", x.worth(0, 10, 17, 4), SPENT);
    }

    private static void promise19LotOfSpent() {
        StepsAhead x = withRoutines(2);
        addEmptyEither(x, 0);
        addTwentyThousandRounds(x, 0);
        addEmptyEither(x, 1);
        addEmptyEither(x, 1);
        addTwentyThousandRounds(x, 1);
        for (int routine = 0; routine < 2; routine++) {
            x.lot(77);
            due("19: spent by lot", x.worth(routine, 20, 7, 2), SPENT);
            int lot = 77;
            for (int i = 0; i <= routine; i++) {
                lot = lot * 1103515245 + 12345;
            }
            dueLot("19: the lot has gone on", x, lot);
        }
        StepsAhead y = withRoutines(1);
        addTwentyThousandRounds(y, 0);
        addEmptyEither(y, 0);
        y.lot(77);
        due("19: the 20001st is an either", y.worth(0, 20, 7, 2), SPENT);
        dueLot("19: the lot has gone on till then", y, 77);
    }

    /** Asks for the lot by 20 choices of another routine. */
    private static void dueLot(String what, StepsAhead x, int lot) {
        int routine = x.routine();
        addCoins(x, routine, 10);
        due(what, choicesOf(x, routine), choicesFrom(lot));
    }

    private static void promise20Lot() {
        for (int z : new int[] {0, 1, -1, 5, Integer.MIN_VALUE, Integer.MAX_VALUE}) {
            StepsAhead x = new StepsAhead();
            due("20: lot", x.lot(z), 1);
            dueLot("20: it is " + z, x, z);
        }
    }

    private static void promise21Allowed() {
        StepsAhead x = halves();
        due("21: one too few", x.allowed(0, 1, 0, 5), NONE);
        due("21: none at all", x.allowed(0, 1, 0, 0), NONE);
        due("21: just enough, by the first lot", x.allowed(0, 1, 0, 6), 3);
        dueLot("21: one choice by then", x, 1103515245 + 12345);
        due("21: budget", x.allowed(0, 1, 0, -1), BAD);
        due("21: x0", x.allowed(0, 21, 0, 9), BAD);
        due("21: x0", x.allowed(0, -1, 0, 9), BAD);
        due("21: x1", x.allowed(0, 0, 21, 9), BAD);
        due("21: x1", x.allowed(0, 0, -1, 9), BAD);
        due("21: no such routine", x.allowed(2, 0, 0, 9), BAD);
        x.either(0);
        due("21: not whole", x.allowed(0, 1, 0, 9), STATE);
        due("21: bad ahead of state", x.allowed(0, 1, 0, -1), BAD);
        due("21: nothing of no budget", withRoutines(1).allowed(0, 0, 0, 0), 0);
        StepsAhead y = withRoutines(1);
        addEmptyEither(y, 0);
        addTwentyThousandRounds(y, 0);
        due("21: a great budget", y.allowed(0, 20, 7, Integer.MAX_VALUE), SPENT);
        dueLot("21: spent, as of worth", y, 1103515245 + 12345);
        due("21: just too small a budget", y.allowed(0, 20, 7, 20000), NONE);
        StepsAhead z = million();
        z.work(3, 1);
        due("21: full", z.allowed(3, 0, 0, Integer.MAX_VALUE), FULL);
    }

    private static void promise22Count() {
        StepsAhead x = allKinds();
        int[] due = {2, 7, 2, 2, 1};
        for (int what = 0; what < 5; what++) {
            due("22: count " + what, x.count(what), due[what]);
        }
        due("22: what below", x.count(-1), BAD);
        due("22: what above", x.count(5), BAD);
        x.either(0);
        due("22: whole itself", x.count(2), 1);
        due("22: without formulas", x.count(3), 0);
        x.work(0, 1);
        x.close(0, OR);
        x.close(0, DONE);
        due("22: both whole", x.count(2), 2);
        due("22: not sure", x.count(3), 0);
        due("22: all ops", x.count(1), 11);
        x.call(1, 0);
        due("22: calls", x.count(4), 2);
        StepsAhead y = million();
        due("22: all sure", y.count(3), 8);
        y.work(3, 1);
        due("22: full ones are not", y.count(3), 7);
        due("22: calls of all", y.count(4), 60);
    }

    private static void formulasThatAreFull() {
        StepsAhead x = million();
        dueTerm("full: 10^6 is not", x, 3, UPPER, 0, 1000000, 1, 0, 0);
        x.back(3);
        x.work(3, 19);
        x.call(4, 3);
        dueTerm("full: 999999 and the call are not", x, 4, UPPER, 0, 1000000, 1, 0, 0);
        x.back(3);
        x.work(3, 20);
        due("full: 10^6 and the call", x.terms(4, UPPER), FULL);
        due("full: term", x.term(4, LOWER, 0, 0), FULL);
        due("full: term, t is not known", x.term(4, LOWER, 20, 0), FULL);
        due("full: value", x.value(4, LOWER, 0, 0), FULL);
        due("full: sure", x.sure(4), FULL);
        due("full: but it can be run", x.worth(4, 0, 0, 0), 1000001);
        x.call(5, 4);
        due("full: one called is", x.terms(5, UPPER), FULL);
        x.work(3, 1);
        due("full: one more in the row", x.terms(3, UPPER), FULL);
        x.back(3);
        due("full: as it was", x.terms(3, UPPER), 1);

        StepsAhead y = fourthPowers();
        first(y, 0, 1, 0, 0, 0, 0);
        y.loop(3);
        y.call(3, 2);
        y.close(3, END);
        due("full: the fifth power is summed", y.terms(3, UPPER), FULL);
        first(y, 0, 0, 0, 0, 0, 0);
        y.loop(4);
        y.call(4, 3);
        y.close(4, END);
        due("full: though nothing is done", y.terms(4, UPPER), FULL);
        due("full: and it is run", y.worth(4, 3, 0, 0), 0);

        StepsAhead z = million();
        empty(z, 3);
        z.either(3);
        for (int i = 0; i < 20; i++) {
            z.call(3, 2);
        }
        z.work(3, 20);
        z.close(3, OR);
        z.close(3, DONE);
        due("full: the greater part and the step", z.terms(3, UPPER), FULL);
        dueTerm("full: the lesser part is not", z, 3, LOWER, 0, 1, 1, 0, 0);
        due("full: one side is enough", z.sure(3), FULL);
        due("full: of the upper one", z.allowed(3, 0, 0, 5), FULL);
    }

    private static void formulasThatAreNotFull() {
        StepsAhead x = fourthPowers();
        first(x, 2, 0, 0, 0, 0, 0);
        x.loop(3);
        first(x, 0, 1, 0, 0, 0, 0);
        x.call(3, 2);
        x.close(3, END);
        dueTerm("not full: two rounds of a fifth power", x, 3, UPPER, 0, 2, 5, 5, 0);
        due("not full: 4 of the rounds and calls", x.value(3, UPPER, 0, 0), 4);
        sumOfCallsOfC(x, 4, 2);
        due("not full: the counter's fifth power", x.terms(4, UPPER), 1);
        due("not full: 1 and 2 put in", x.value(4, UPPER, 9, 9), (1 + 1 + 7) + (1 + 1 + 7 + 34));

        StepsAhead y = million();
        empty(y, 3);
        first(y, 0, 0, 0, 0, 0, 0);
        y.loop(3);
        for (int i = 0; i < 20; i++) {
            y.call(3, 2);
        }
        y.work(3, 20);
        y.close(3, END);
        due("not full: what is summed, 10^6 + 1, is none that may be", y.terms(3, UPPER), 0);
    }

    /** Two rounds; each calls with its own number as x0. */
    private static void sumOfCallsOfC(StepsAhead x, int routine, int called) {
        first(x, 2, 0, 0, 0, 0, 0);
        x.loop(routine);
        first(x, 0, 0, 0, 1, 0, 0);
        x.call(routine, called);
        x.close(routine, END);
    }

    /**
     * From a routine on: 2 x1 steps; then either of two, whose LOWER is 1 + 32 x0^3 x1, as nothing else is
     * in both; the sum of 3 + 512 i^4 for i up to x0, which has 3 - 256/15 = -211/15 x0; then either that
     * or nothing, whose LOWER is -211/15 x0 + 1.
     */
    private static void addBelowZero(StepsAhead x, int from) {
        first(x, 0, 0, 2, 0, 0, 0);
        x.loop(from);
        x.close(from, END);
        int choice = from + 1;
        x.either(choice);
        first(x, 0, 2, 0, 0, 0, 0);
        x.loop(choice);
        x.loop(choice);
        x.loop(choice);
        second(x, 0, 0, 2, 0, 0, 0);
        x.call(choice, from);
        closeLoops(x, choice);
        x.close(choice, OR);
        first(x, 0, 0, 2, 0, 0, 0);
        x.loop(choice);
        first(x, 0, 2, 0, 0, 0, 0);
        x.loop(choice);
        x.loop(choice);
        second(x, 0, 2, 0, 0, 0, 0);
        x.call(choice, from);
        closeLoops(x, choice);
        x.close(choice, DONE);
        int sum = from + 2;
        first(x, 0, 1, 0, 0, 0, 0);
        x.loop(sum);
        first(x, 0, 0, 0, 2, 0, 0);
        second(x, 0, 0, 0, 2, 0, 0);
        x.call(sum, choice);
        x.close(sum, END);
        int alone = from + 3;
        x.either(alone);
        first(x, 0, 1, 0, 0, 0, 0);
        x.call(alone, sum);
        x.close(alone, OR);
        x.close(alone, DONE);
    }

    private static void fractionsBelowZero() {
        StepsAhead x = withRoutines(8);
        addBelowZero(x, 0);
        due("below 0: two terms", x.terms(1, LOWER), 2);
        dueTerm("below 0: 32 x0^3 x1", x, 1, LOWER, 0, 32, 1, 3, 1);
        dueTerm("below 0: 512/5 x0^5", x, 2, LOWER, 0, 512, 5, 5, 0);
        dueTerm("below 0: -211/15 x0", x, 2, LOWER, 3, -211, 15, 1, 0);
        due("below 0: two terms", x.terms(3, LOWER), 2);
        dueTerm("below 0: -211/15 x0", x, 3, LOWER, 0, -211, 15, 1, 0);
        dueTerm("below 0: 1", x, 3, LOWER, 1, 1, 1, 0, 0);
        due("below 0: not below -196/15", x.value(3, LOWER, 1, 0), -13);
        due("below 0: not below -206/5", x.value(3, LOWER, 3, 0), -41);
        due("below 0: -210", x.value(3, LOWER, 15, 0), -210);
    }

    private static void fractionsThatAreTooFine() {
        StepsAhead x = withRoutines(8);
        addBelowZero(x, 0);
        first(x, 0, 1, 0, 0, 0, 0);
        x.loop(4);
        first(x, 0, 0, 0, 1, 0, 0);
        x.loop(4);
        first(x, 0, 0, 0, 0, 1, 0);
        x.loop(4);
        first(x, 0, 0, 0, 0, 0, 1);
        x.call(4, 3);
        closeLoops(x, 4);
        dueTerm("too fine: -211/360 x0^4 is not", x, 4, LOWER, 0, -211, 360, 4, 0);
        sumOfCalls(x, 5, 4);
        due("too fine: -211/1800 x0^5", x.terms(5, LOWER), FULL);
        first(x, 0, 1, 0, 0, 0, 0);
        x.call(6, 4);
        dueTerm("too fine: not yet", x, 6, LOWER, 0, -211, 360, 4, 0);
    }

    /** Fractions of x0 beyond 10^6, beside one below 0 that would bring them back. */
    private static void fullThoughTheSumIsNot() {
        for (int order = 0; order < 3; order++) {
            StepsAhead x = withRoutines(8);
            x.work(0, 99);
            x.work(0, 99);
            x.work(0, 99);
            x.work(0, 14);
            int[] rest = {0, 8, 17};
            for (int routine = 1; routine < 3; routine++) {
                for (int i = 0; i < 20; i++) {
                    x.call(routine, routine - 1);
                }
                x.work(routine, rest[routine]);
            }
            addBelowZero(x, 3);
            first(x, 0, 1, 0, 0, 0, 0);
            if (order != 1) {
                x.call(7, 6);
            }
            // 1 and 8 * 124998 and what comes to 10^6 and 1, or 4 less
            x.loop(7);
            for (int i = 0; i < 8; i++) {
                x.call(7, 2);
            }
            x.work(7, order == 0 ? 16 : 12);
            x.close(7, END);
            x.loop(7);
            x.work(7, 7);
            x.close(7, END);
            if (order == 1) {
                x.call(7, 6);
            }
            if (order == 2) {
                dueTerm("row: 999997 + 8 - 211/15", x, 7, LOWER, 0, 1000005L * 15 - 211, 15, 1, 0);
            } else {
                due("row: " + (order == 0 ? "one op is full" : "the first two are full"), x.terms(7, LOWER), FULL);
            }
        }
    }

    private static void eightWithinOneAnother() {
        StepsAhead x = withRoutines(1);
        for (int i = 0; i < 8; i++) {
            x.either(0);
            x.close(0, OR);
        }
        for (int i = 0; i < 8; i++) {
            x.close(0, DONE);
        }
        due("eight: upper", x.value(0, UPPER, 0, 0), 8);
        due("eight: lower", x.value(0, LOWER, 0, 0), 1);
        due("eight: the most", x.worth(0, 0, 0, 3), 8);
        due("eight: the least", x.worth(0, 0, 0, 4), 1);
        due("eight: second parts", x.worth(0, 0, 0, 1), 8);
    }

    private static void countersThatAreNotThere() {
        StepsAhead x = withRoutines(3);
        first(x, 0, 1, 0, 2, 2, 2);
        x.loop(0);
        x.close(0, END);
        due("counters: its own is not around it", x.worth(0, 5, 0, 0), 5);
        due("counters: nor in its formula", x.value(0, UPPER, 5, 0), 5);
        first(x, 0, 0, 0, 2, 0, 0);
        x.loop(0);
        x.close(0, END);
        due("counters: gone behind its end", x.worth(0, 5, 0, 0), 5);
        due("counters: gone from the formula", x.value(0, UPPER, 5, 0), 5);
        first(x, 2, 0, 0, 0, 0, 0);
        x.loop(1);
        first(x, 0, 0, 0, 2, 0, 0);
        x.loop(1);
        first(x, 0, 0, 0, 1, 1, 2);
        x.loop(1);
        x.close(1, END);
        x.call(1, 0);
        x.close(1, END);
        x.close(1, END);
        // each of 2 rounds i has 2 i rounds j, each with i + j rounds and a call with i + j
        long due = 0;
        for (int i = 1; i <= 2; i++) {
            due++;
            for (int j = 1; j <= 2 * i; j++) {
                due += 1 + (i + j) + 1 + (i + j);
            }
        }
        due("counters: of those around", x.worth(1, 5, 0, 0), due);
        due("counters: of those around, ahead", x.value(1, UPPER, 5, 0), due);
        StepsAhead y = fourthPowers();
        first(y, 2, 0, 0, 1, 1, 1);
        y.loop(3);
        first(y, 0, 1, 0, 0, 0, 0);
        y.call(3, 2);
        y.close(3, END);
        due("counters: without them c is alone", y.terms(3, UPPER), 6);
    }

    private static void changesWorkOnCallers() {
        StepsAhead x = fourthPowers();
        due("changes: ahead", x.value(2, UPPER, 2, 0), 7 + 34);
        x.work(0, 5);
        due("changes: of one called", x.value(1, UPPER, 2, 0), 4 + 4 + 8 + 16 + 2 * 5);
        due("changes: of one called by one called", x.value(2, UPPER, 2, 0), 41 + 5 + 2 * 5);
        due("changes: run, too", x.worth(2, 2, 0, 0), 41 + 5 + 2 * 5);
        x.either(1);
        due("changes: none is whole", x.sure(2), STATE);
        due("changes: but what does not call it", x.sure(0), 1);
        x.close(1, OR);
        x.close(1, DONE);
        due("changes: whole again", x.value(2, LOWER, 2, 0), 41 + 5 + 2 * 5 + 2);
        x.back(0);
        due("changes: back", x.value(2, LOWER, 2, 0), 41 + 2);
    }
}

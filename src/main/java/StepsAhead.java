import java.util.Arrays;

/**
 * Programs of ROUTINES, judged for how many STEPS they take before they are run.
 *
 * <p>The numbered promises of DOC.md say what each call answers; the capital words are its terms.
 * Whatever a question needs is made once, with the object: a call that asks makes nothing new.
 */
public final class StepsAhead {
    public static final int NONE = -1000000, BAD = -1000001, STATE = -1000002, FULL = -1000003, SPENT = -1000004, KIND = -1000005;

    private static final int ANY_OP = 0, WORK = 1, COUNTED = 2, LOOP = 3, CALL = 4, EITHER = 5;
    private static final int END = 6, OR = 7, DONE = 8;
    private static final int LOWER = 0, UPPER = 1, SIDES = 2;
    private static final int FIRST_ALWAYS = 0, SECOND_ALWAYS = 1, BY_LOT = 2, MOST_STEPS = 3, FEWEST_STEPS = 4;

    private static final int MOST_ROUTINES = 8, MOST_OPS = 24, MOST_LOOPS = 3;
    private static final int MOST_WORK = 99, MOST_FACTOR = 2, MOST_INPUT = 20;
    /** c, a0 .. a4 of an EXPRESSION; x0, x1, i0, i1, i2, of which the counters come behind the inputs. */
    private static final int FACTORS = 6, VARIABLES = 5, INPUTS = 2;
    /** All powers of a TERM together are 5 at most, so each of them has 6 values. */
    private static final int MOST_POWERS = 5, POWERS = 6;
    /** Fractions are held as whole numbers of 1/8640, the finest that a FORMULA may have. */
    private static final long SCALE = 8640, MOST_FRACTION = 1000000 * SCALE;
    private static final int UNKNOWN = 0, FINE = 1;
    private static final int NO_PLACE = -1;

    private final Routine[] routines = new Routine[MOST_ROUTINES];
    private int made = 0;
    private final int[] firstExpression = new int[FACTORS];
    private final int[] secondExpression = new int[FACTORS];
    private final Trace left = new Trace();
    private final Reckoner reckoner = new Reckoner();
    private final Runner runner = new Runner();

    public StepsAhead() {
        for (int number = 0; number < MOST_ROUTINES; number++) {
            routines[number] = new Routine(number);
        }
    }

    // ---- programs

    public int routine() {
        if (made >= MOST_ROUTINES) {
            return FULL;
        }
        made++;
        return made - 1;
    }

    public int expression(int which, int c, int a0, int a1, int a2, int a3, int a4) {
        boolean factors = isFactor(c) && isFactor(a0) && isFactor(a1) && isFactor(a2) && isFactor(a3) && isFactor(a4);
        if (which < 0 || which > 1 || !factors) {
            return BAD;
        }
        int[] told = which == 0 ? firstExpression : secondExpression;
        told[0] = c;
        told[1] = a0;
        told[2] = a1;
        told[3] = a2;
        told[4] = a3;
        told[5] = a4;
        return 1;
    }

    public int work(int routine, int c) {
        Routine changed = found(routine);
        if (changed == null || c < 1 || c > MOST_WORK) {
            return BAD;
        }
        if (changed.hasNoRoom()) {
            return FULL;
        }
        return append(changed, new Work(changed.size, changed.openLoops(), c));
    }

    public int loop(int routine) {
        Routine changed = found(routine);
        if (changed == null) {
            return BAD;
        }
        int around = changed.openLoops();
        if (around >= MOST_LOOPS) {
            return STATE;
        }
        if (changed.hasNoRoom()) {
            return FULL;
        }
        return append(changed, new Loop(changed.size, around, firstExpression.clone()));
    }

    public int call(int routine, int called) {
        Routine changed = found(routine);
        Routine target = found(called);
        if (changed == null || target == null || called >= routine) {
            return BAD;
        }
        if (changed.hasNoRoom()) {
            return FULL;
        }
        int[] first = firstExpression.clone();
        int[] second = secondExpression.clone();
        return append(changed, new Call(changed.size, changed.openLoops(), first, second, target));
    }

    public int either(int routine) {
        Routine changed = found(routine);
        if (changed == null) {
            return BAD;
        }
        if (changed.hasNoRoom()) {
            return FULL;
        }
        return append(changed, new Either(changed.size, changed.openLoops()));
    }

    public int close(int routine, int kind) {
        Routine changed = found(routine);
        if (changed == null || kind < END || kind > DONE) {
            return BAD;
        }
        Op inner = changed.innermost();
        if (inner == null || !inner.isClosedNextBy(kind)) {
            return STATE;
        }
        if (changed.hasNoRoom()) {
            return FULL;
        }
        return append(changed, new Op(kind, changed.size, changed.openLoops(), inner.place));
    }

    public int back(int routine) {
        Routine changed = found(routine);
        if (changed == null) {
            return BAD;
        }
        if (changed.size == 0) {
            return STATE;
        }
        changed.dropLast();
        forgetFrom(changed.number);
        return changed.size;
    }

    public int kind(int routine, int op) {
        Op asked = found(routine, op);
        return asked == null ? BAD : asked.ownKind;
    }

    public int is(int routine, int op, int kind) {
        Op asked = found(routine, op);
        if (asked == null || kind < ANY_OP || kind > DONE) {
            return BAD;
        }
        return asked.isOf(kind) ? 1 : 0;
    }

    public int told(int routine, int op, int which) {
        Op asked = found(routine, op);
        if (asked == null || which < 0 || which >= FACTORS) {
            return BAD;
        }
        return asked instanceof Counted counted ? counted.first[which] : KIND;
    }

    public int ask(int routine, int op, int what) {
        Op asked = found(routine, op);
        if (asked == null || what < 0 || what > 1) {
            return BAD;
        }
        left.empty();
        return what == 0 ? asked.sizeAsked(left) : asked.markAsked(left);
    }

    public int trace(int i) {
        return left.numberAt(i);
    }

    // ---- formulas

    public int terms(int routine, int side) {
        Routine judged = found(routine);
        if (judged == null || !isSide(side)) {
            return BAD;
        }
        int refusal = refusalOf(judged, side);
        return refusal < 0 ? refusal : judged.termCount(side);
    }

    public long term(int routine, int side, int t, int what) {
        Routine judged = found(routine);
        if (judged == null || !isSide(side) || t < 0 || what < 0 || what > 3) {
            return BAD;
        }
        int refusal = refusalOf(judged, side);
        if (refusal < 0) {
            return refusal;
        }
        int where = judged.termPlace(side, t);
        if (where == NO_PLACE) {
            return BAD;
        }
        long scaled = judged.formulas[side][where];
        switch (what) {
            case 0:
                return scaled / commonDivisor(scaled);
            case 1:
                return SCALE / commonDivisor(scaled);
            case 2:
                return where / POWERS;
            default:
                return where % POWERS;
        }
    }

    public long value(int routine, int side, int x0, int x1) {
        Routine judged = found(routine);
        if (judged == null || !isSide(side) || !isInput(x0) || !isInput(x1)) {
            return BAD;
        }
        int refusal = refusalOf(judged, side);
        return refusal < 0 ? refusal : judged.wholeValue(side, x0, x1);
    }

    public int sure(int routine) {
        Routine judged = found(routine);
        if (judged == null) {
            return BAD;
        }
        int refusal = Math.min(refusalOf(judged, LOWER), refusalOf(judged, UPPER));
        if (refusal < 0) {
            return refusal;
        }
        return judged.hasSameSides() ? 1 : 0;
    }

    // ---- runs

    public int worth(int routine, int x0, int x1, int way) {
        Routine run = found(routine);
        if (run == null || !isInput(x0) || !isInput(x1) || way < FIRST_ALWAYS || way > FEWEST_STEPS) {
            return BAD;
        }
        if (!areWhole(reached(run))) {
            return STATE;
        }
        return runner.stepsOf(run, x0, x1, way);
    }

    public int lot(int z) {
        runner.lotNow = z;
        return 1;
    }

    public int allowed(int routine, int x0, int x1, int budget) {
        Routine run = found(routine);
        if (run == null || !isInput(x0) || !isInput(x1) || budget < 0) {
            return BAD;
        }
        int refusal = refusalOf(run, UPPER);
        if (refusal < 0) {
            return refusal;
        }
        if (run.wholeValue(UPPER, x0, x1) > budget) {
            return NONE;
        }
        return runner.stepsOf(run, x0, x1, BY_LOT);
    }

    public int count(int what) {
        if (what < 0 || what > 4) {
            return BAD;
        }
        int all = 0;
        for (int number = 0; number < made && number < MOST_ROUTINES; number++) {
            Routine next = routines[number];
            switch (what) {
                case 0:
                    all++;
                    break;
                case 1:
                    all += next.size;
                    break;
                case 2:
                    all += next.isWhole() ? 1 : 0;
                    break;
                case 3:
                    boolean stands = refusalOf(next, LOWER) == 0 && refusalOf(next, UPPER) == 0;
                    all += stands && next.hasSameSides() ? 1 : 0;
                    break;
                default:
                    all += next.callCount();
                    break;
            }
        }
        return all;
    }

    // ---- what the calls share

    private Routine found(int routine) {
        return routine < 0 || routine >= made || routine >= MOST_ROUTINES ? null : routines[routine];
    }

    private Op found(int routine, int op) {
        Routine asked = found(routine);
        return asked == null ? null : asked.opAt(op);
    }

    private static boolean isFactor(int number) {
        return number >= 0 && number <= MOST_FACTOR;
    }

    private static boolean isInput(int number) {
        return number >= 0 && number <= MOST_INPUT;
    }

    private static boolean isSide(int side) {
        return side == LOWER || side == UPPER;
    }

    private int append(Routine changed, Op op) {
        changed.append(op);
        forgetFrom(changed.number);
        return op.place;
    }

    /** CALLS go to lesser numbers alone, so what changes here can matter only to this one and later ones. */
    private void forgetFrom(int number) {
        for (int later = number; later < MOST_ROUTINES; later++) {
            routines[later].forgetFormulas();
        }
    }

    /** A bit for the ROUTINE and for each one that it calls, or that those call. */
    private int reached(Routine from) {
        int bits = 1 << from.number;
        for (int number = from.number; number >= 0; number--) {
            if ((bits >> number & 1) != 0) {
                bits |= routines[number].calledBits;
            }
        }
        return bits;
    }

    private boolean areWhole(int bits) {
        for (int number = 0; number < MOST_ROUTINES; number++) {
            if ((bits >> number & 1) != 0 && !routines[number].isWhole()) {
                return false;
            }
        }
        return true;
    }

    /** STATE, FULL, or 0 if the FORMULA stands; those that are called are reckoned ahead of their callers. */
    private int refusalOf(Routine judged, int side) {
        int bits = reached(judged);
        if (!areWhole(bits)) {
            return STATE;
        }
        for (int number = 0; number <= judged.number; number++) {
            Routine next = routines[number];
            if ((bits >> number & 1) != 0 && next.standings[side] == UNKNOWN) {
                reckoner.reckon(next, side);
            }
        }
        return judged.standings[side] == FINE ? 0 : FULL;
    }

    /** The greatest number that divides both a scaled fraction and the scale; never 0. */
    private static long commonDivisor(long scaled) {
        long greater = SCALE;
        long lesser = Math.abs(scaled) % SCALE;
        for (int turn = 0; turn < 64 && lesser != 0; turn++) {
            long rest = greater % lesser;
            greater = lesser;
            lesser = rest;
        }
        return Math.max(greater, 1);
    }

    /** THE TRACE: the numbers of the BODIES in the order in which they began. */
    private static final class Trace {
        private final int[] numbers = new int[16];
        private int length = 0;

        void empty() {
            length = 0;
        }

        void leave(int body) {
            if (length < numbers.length) {
                numbers[length] = body;
                length++;
            }
        }

        int numberAt(int i) {
            return i < 0 || i >= length || i >= numbers.length ? NONE : numbers[i];
        }
    }

    /** An OP of any KIND; END, OR and DONE are no more than this. */
    private static class Op {
        final int ownKind;
        final int place;
        final int loopsAround;
        /** The place of the LOOP or EITHER that an END, OR or DONE belongs to. */
        final int opener;

        Op(int ownKind, int place, int loopsAround, int opener) {
            this.ownKind = ownKind;
            this.place = place;
            this.loopsAround = loopsAround;
            this.opener = opener;
        }

        boolean isOf(int asked) {
            return asked == ANY_OP || asked == ownKind;
        }

        boolean isClosedNextBy(int closing) {
            return false;
        }

        /** Told, as the OP at a place closes this one, or with NO_PLACE, as that one goes again. */
        void closedAt(int closing, int closingPlace) {
        }

        int sizeAsked(Trace trace) {
            trace.leave(10);
            return 1;
        }

        int markAsked(Trace trace) {
            trace.leave(20);
            return place;
        }
    }

    private static final class Work extends Op {
        final int c;

        Work(int place, int loopsAround, int c) {
            super(WORK, place, loopsAround, NO_PLACE);
            this.c = c;
        }

        @Override
        int sizeAsked(Trace trace) {
            trace.leave(13);
            return c;
        }
    }

    private abstract static class Counted extends Op {
        final int[] first;

        Counted(int ownKind, int place, int loopsAround, int[] first) {
            super(ownKind, place, loopsAround, NO_PLACE);
            this.first = first;
        }

        @Override
        boolean isOf(int asked) {
            return asked == COUNTED || super.isOf(asked);
        }

        @Override
        int sizeAsked(Trace trace) {
            trace.leave(11);
            return super.sizeAsked(trace) + notZero(first);
        }

        @Override
        int markAsked(Trace trace) {
            trace.leave(21);
            return super.markAsked(trace) + sizeAsked(trace);
        }

        static int notZero(int[] expression) {
            int all = 0;
            for (int factor : expression) {
                if (factor != 0) {
                    all++;
                }
            }
            return all;
        }
    }

    private static final class Loop extends Counted {
        int end = NO_PLACE;

        Loop(int place, int loopsAround, int[] first) {
            super(LOOP, place, loopsAround, first);
        }

        /** Counters that are not there are 0, so factors of theirs leave c alone. */
        boolean hasFixedRounds() {
            for (int variable = 0; variable < INPUTS + loopsAround && variable < VARIABLES; variable++) {
                if (first[1 + variable] != 0) {
                    return false;
                }
            }
            return true;
        }

        /** Which variable of a FORMULA its counter is. */
        int counter() {
            return INPUTS + loopsAround;
        }

        @Override
        boolean isClosedNextBy(int closing) {
            return closing == END;
        }

        @Override
        void closedAt(int closing, int closingPlace) {
            end = closingPlace;
        }

        @Override
        int markAsked(Trace trace) {
            trace.leave(22);
            return super.markAsked(trace) + loopsAround + 1;
        }
    }

    private static final class Call extends Counted {
        final int[] second;
        final Routine target;

        Call(int place, int loopsAround, int[] first, int[] second, Routine target) {
            super(CALL, place, loopsAround, first);
            this.second = second;
            this.target = target;
        }

        @Override
        int sizeAsked(Trace trace) {
            trace.leave(12);
            return super.sizeAsked(trace) + notZero(second);
        }

        @Override
        int markAsked(Trace trace) {
            trace.leave(23);
            return target.number;
        }
    }

    private static final class Either extends Op {
        int or = NO_PLACE;
        int done = NO_PLACE;
        /** Of a run that does both parts: the STEPS ahead of them, and those of the first one. */
        int stepsBefore = 0;
        int stepsOfFirst = 0;

        Either(int place, int loopsAround) {
            super(EITHER, place, loopsAround, NO_PLACE);
        }

        @Override
        boolean isClosedNextBy(int closing) {
            return closing == (or == NO_PLACE ? OR : DONE);
        }

        @Override
        void closedAt(int closing, int closingPlace) {
            if (closing == OR) {
                or = closingPlace;
            } else {
                done = closingPlace;
            }
        }

        @Override
        int markAsked(Trace trace) {
            trace.leave(24);
            return 2 * super.markAsked(trace);
        }
    }

    /**
     * A ROUTINE, with its FORMULAS as far as they are known and with what a run holds of it: as
     * CALLS go to lesser numbers alone, a run is within it at most once at a time.
     */
    private static final class Routine {
        final int number;
        private final Op[] ops = new Op[MOST_OPS];
        int size = 0;
        /** The places of LOOPS and EITHERS that are not closed, the innermost last. */
        private final int[] open = new int[MOST_OPS];
        private int openSize = 0;
        /** A bit for each ROUTINE that is called here. */
        int calledBits = 0;

        /** By side; the fraction of x0^a x1^b stands at a * POWERS + b. */
        final long[][] formulas = new long[SIDES][POWERS * POWERS];
        final int[] standings = new int[SIDES];

        /** x0, x1, i0, i1, i2; a counter is 0 while its LOOP is not there. */
        private final long[] variables = new long[VARIABLES];
        private final long[] rounds = new long[VARIABLES];
        Routine caller = null;
        int placeInCaller = 0;

        Routine(int number) {
            this.number = number;
        }

        boolean hasNoRoom() {
            return size >= MOST_OPS;
        }

        boolean isWhole() {
            return openSize == 0;
        }

        Op opAt(int place) {
            return place < 0 || place >= size || place >= MOST_OPS ? null : ops[place];
        }

        Op innermost() {
            int last = openSize - 1;
            return last < 0 || last >= MOST_OPS ? null : opAt(open[last]);
        }

        int openLoops() {
            int loops = 0;
            for (int i = 0; i < openSize && i < MOST_OPS; i++) {
                if (opAt(open[i]) instanceof Loop) {
                    loops++;
                }
            }
            return loops;
        }

        int callCount() {
            int calls = 0;
            for (int place = 0; place < size; place++) {
                if (opAt(place) instanceof Call) {
                    calls++;
                }
            }
            return calls;
        }

        void append(Op op) {
            if (hasNoRoom()) {
                return;
            }
            ops[size] = op;
            size++;
            noteCalls();
            if (op.ownKind == LOOP || op.ownKind == EITHER) {
                pushOpen(op.place);
                return;
            }
            Op opener = opAt(op.opener);
            if (opener != null) {
                opener.closedAt(op.ownKind, op.place);
                if (op.ownKind != OR) {
                    openSize--;
                }
            }
        }

        void dropLast() {
            Op last = opAt(size - 1);
            if (last == null) {
                return;
            }
            size--;
            ops[size] = null;
            noteCalls();
            if (last.ownKind == LOOP || last.ownKind == EITHER) {
                openSize--;
                return;
            }
            Op opener = opAt(last.opener);
            if (opener != null) {
                opener.closedAt(last.ownKind, NO_PLACE);
                if (last.ownKind != OR) {
                    pushOpen(opener.place);
                }
            }
        }

        private void pushOpen(int place) {
            if (openSize >= 0 && openSize < MOST_OPS) {
                open[openSize] = place;
                openSize++;
            }
        }

        private void noteCalls() {
            calledBits = 0;
            for (int place = 0; place < size; place++) {
                if (opAt(place) instanceof Call call) {
                    calledBits |= 1 << call.target.number;
                }
            }
        }

        void forgetFormulas() {
            standings[LOWER] = UNKNOWN;
            standings[UPPER] = UNKNOWN;
        }

        int termCount(int side) {
            int terms = 0;
            for (long scaled : formulas[side]) {
                if (scaled != 0) {
                    terms++;
                }
            }
            return terms;
        }

        /** Where TERM t stands, or NO_PLACE. */
        int termPlace(int side, int t) {
            int ahead = 0;
            for (int where = POWERS * POWERS - 1; where >= 0; where--) {
                if (formulas[side][where] != 0) {
                    if (ahead == t) {
                        return where;
                    }
                    ahead++;
                }
            }
            return NO_PLACE;
        }

        /** Rounded towards what lies between both sides. */
        long wholeValue(int side, int x0, int x1) {
            long scaled = 0;
            for (int a = MOST_POWERS; a >= 0; a--) {
                long inner = 0;
                for (int b = MOST_POWERS; b >= 0; b--) {
                    inner = inner * x1 + formulas[side][a * POWERS + b];
                }
                scaled = scaled * x0 + inner;
            }
            return side == UPPER ? Math.floorDiv(scaled, SCALE) : -Math.floorDiv(-scaled, SCALE);
        }

        boolean hasSameSides() {
            for (int where = 0; where < POWERS * POWERS; where++) {
                if (formulas[LOWER][where] != formulas[UPPER][where]) {
                    return false;
                }
            }
            return true;
        }

        void enter(long x0, long x1, Routine from, int placeThere) {
            Arrays.fill(variables, 0);
            variables[0] = x0;
            variables[1] = x1;
            caller = from;
            placeInCaller = placeThere;
        }

        long valueNow(int[] expression) {
            long sum = expression[0];
            for (int variable = 0; variable < VARIABLES; variable++) {
                sum += expression[1 + variable] * variables[variable];
            }
            return sum;
        }

        void setRounds(Loop loop, long all) {
            int counter = loop.counter();
            if (counter < VARIABLES) {
                rounds[counter] = all;
            }
        }

        /** The number of the next round, or 0 if the last one is over. */
        long nextRound(Loop loop) {
            int counter = loop.counter();
            if (counter >= VARIABLES || variables[counter] >= rounds[counter]) {
                return 0;
            }
            return variables[counter] + 1;
        }

        void setCounter(Loop loop, long round) {
            int counter = loop.counter();
            if (counter < VARIABLES) {
                variables[counter] = round;
            }
        }
    }

    /** Runs a ROUTINE OP by OP; one that calls waits in those it called, so nothing here calls itself. */
    private static final class Runner {
        private static final int MOST_COMINGS = 20000;
        /** Between two comings some 200 OPS are passed at most: 24, and their ROUTINE's end, in each of 8. */
        private static final int MOST_TURNS = 10000000;

        int lotNow = 1;
        private int way = FIRST_ALWAYS;
        private int steps = 0;
        private int comings = 0;
        private boolean spent = false;
        private Routine here = null;
        private int place = 0;

        int stepsOf(Routine routine, int x0, int x1, int byWay) {
            way = byWay;
            steps = 0;
            comings = 0;
            spent = false;
            here = routine;
            place = 0;
            routine.enter(x0, x1, null, 0);
            for (int turn = 0; turn < MOST_TURNS && here != null && !spent; turn++) {
                pass(here);
            }
            return here == null ? steps : SPENT;
        }

        private void pass(Routine now) {
            Op op = now.opAt(place);
            if (op == null) {
                place = now.placeInCaller;
                here = now.caller;
            } else if (op instanceof Work done) {
                steps += done.c;
                place++;
            } else if (op instanceof Loop loop) {
                now.setRounds(loop, now.valueNow(loop.first));
                goRound(now, loop);
            } else if (op instanceof Call call) {
                goInto(now, call);
            } else if (op instanceof Either either) {
                choose(either);
            } else {
                passClosing(now, op, now.opAt(op.opener));
            }
        }

        private void passClosing(Routine now, Op closing, Op opener) {
            place++;
            if (opener instanceof Loop loop) {
                goRound(now, loop);
            } else if (opener instanceof Either either && doesBoth()) {
                endPart(either, closing.ownKind);
            } else if (opener instanceof Either either && closing.ownKind == OR) {
                place = either.done + 1;
            }
        }

        /** Whether one more round, CALL or EITHER may be come to. */
        private boolean comes() {
            if (comings >= MOST_COMINGS) {
                spent = true;
                return false;
            }
            comings++;
            steps++;
            return true;
        }

        private void goRound(Routine now, Loop loop) {
            long round = now.nextRound(loop);
            if (round == 0) {
                now.setCounter(loop, 0);
                place = loop.end + 1;
            } else if (comes()) {
                now.setCounter(loop, round);
                place = loop.place + 1;
            }
        }

        private void goInto(Routine now, Call call) {
            if (comes()) {
                call.target.enter(now.valueNow(call.first), now.valueNow(call.second), now, place + 1);
                here = call.target;
                place = 0;
            }
        }

        private boolean doesBoth() {
            return way == MOST_STEPS || way == FEWEST_STEPS;
        }

        private void choose(Either either) {
            if (!comes()) {
                return;
            }
            place++;
            if (doesBoth()) {
                either.stepsBefore = steps;
                steps = 0;
            } else if (way == SECOND_ALWAYS || way == BY_LOT && lotTellsSecond()) {
                place = either.or + 1;
            }
        }

        private boolean lotTellsSecond() {
            lotNow = lotNow * 1103515245 + 12345;
            return (lotNow >> 16 & 1) != 0;
        }

        private void endPart(Either either, int closing) {
            if (closing == OR) {
                either.stepsOfFirst = steps;
                steps = 0;
            } else {
                int chosen = way == MOST_STEPS
                        ? Math.max(either.stepsOfFirst, steps)
                        : Math.min(either.stepsOfFirst, steps);
                steps = either.stepsBefore + chosen;
            }
        }
    }

    /**
     * Numbers for all products of powers of x0, x1, i0, i1, i2 that are 5 together at most: 0 is that
     * without any, and those of fewer powers come first. A row has a scaled fraction for each of them.
     */
    private static final class Products {
        static final int ALL = 252;
        private static final int[] UP_TO = {1, 6, 21, 56, 126, 252};
        static final int NO_PRODUCT = -1;

        /** times[v][p]: product p times variable v. */
        private final int[][] times = new int[VARIABLES][ALL];
        /** The last variable that a product has (of product 0: the first one, as any may come behind it). */
        private final int[] lastVariable = new int[ALL];

        Products() {
            int[] shorter = new int[ALL];
            for (int variable = 0; variable < VARIABLES; variable++) {
                Arrays.fill(times[variable], NO_PRODUCT);
            }
            int from = 0;
            for (int powers = 0; powers < MOST_POWERS; powers++) {
                numberNew(shorter, from, UP_TO[powers]);
                findOthers(shorter, from, UP_TO[powers]);
                from = UP_TO[powers];
            }
        }

        /** Each product is new just once: as a shorter one times its own last variable. */
        private void numberNew(int[] shorter, int from, int to) {
            int next = to;
            for (int product = from; product < to; product++) {
                for (int variable = lastVariable[product]; variable < VARIABLES && next < ALL; variable++) {
                    times[variable][product] = next;
                    lastVariable[next] = variable;
                    shorter[next] = product;
                    next++;
                }
            }
        }

        private void findOthers(int[] shorter, int from, int to) {
            for (int product = from; product < to; product++) {
                int last = lastVariable[product];
                for (int variable = 0; variable < last; variable++) {
                    times[variable][product] = timesVariable(timesVariable(shorter[product], variable), last);
                }
            }
        }

        int timesVariable(int product, int variable) {
            if (product < 0 || product >= ALL || variable < 0 || variable >= VARIABLES) {
                return NO_PRODUCT;
            }
            return times[variable][product];
        }

        /** Whether all variables of a product come ahead of one. */
        boolean isAheadOf(int product, int variable) {
            return product >= 0 && product < ALL && lastVariable[product] < variable;
        }

        /** How many products have so many powers together, or fewer. */
        static int upTo(int powers) {
            if (powers < 0) {
                return 0;
            }
            return powers < MOST_POWERS ? UP_TO[powers] : ALL;
        }

        /** The most powers together that a row's fractions other than 0 have; 0 for none. */
        static int powersOf(long[] row) {
            int product = ALL - 1;
            while (product > 0 && row[product] == 0) {
                product--;
            }
            int powers = 0;
            while (powers < MOST_POWERS && product >= UP_TO[powers]) {
                powers++;
            }
            return powers;
        }

        /**
         * A row with so many products becomes itself times an EXPRESSION that has some LOOPS around it.
         * From the last product on down, as what a product gives goes to later ones, that are done.
         */
        void multiply(long[] row, int products, int[] expression, int loopsAround) {
            int variables = INPUTS + loopsAround;
            for (int product = Math.min(products, ALL) - 1; product >= 0; product--) {
                long scaled = row[product];
                if (scaled != 0) {
                    row[product] = scaled * expression[0];
                    for (int variable = 0; variable < variables && variable < VARIABLES; variable++) {
                        int greater = times[variable][product];
                        if (greater != NO_PRODUCT) {
                            row[greater] += scaled * expression[1 + variable];
                        }
                    }
                }
            }
        }
    }

    /**
     * Reckons the FORMULAS of a ROUTINE in one pass over its OPS, with a row for each row of OPS that
     * is not at its end. All in between stays far below 2^63: fractions are 10^6 at most as they come
     * in, and a fifth power of an EXPRESSION's six factors makes that some 10^17 of the scale at most.
     */
    private static final class Reckoner {
        /** 8 EITHERS within one another, each with both its parts, and the ROUTINE's own. */
        private static final int MOST_ROWS = 18;
        /** Sums of i^k for i from 1 to e, as powers of e: 60 times the factor of e^j stands at k * POWERS + j. */
        private static final long SUMS_SCALE = 60;
        private static final int[] SUMS = {
            0, 60, 0, 0, 0, 0,
            0, 30, 30, 0, 0, 0,
            0, 10, 30, 20, 0, 0,
            0, 0, 15, 30, 15, 0,
            0, -2, 0, 20, 30, 12,
        };

        private final Products table = new Products();
        private final long[][] rows = new long[MOST_ROWS][Products.ALL];
        private int top = 0;
        /** The FORMULA of the OP at hand, and a part of it. */
        private final long[] ofOp = new long[Products.ALL];
        private final long[] part = new long[Products.ALL];
        private int side = LOWER;
        private boolean full = false;

        /** All that it calls are known already. */
        void reckon(Routine routine, int ofSide) {
            side = ofSide;
            full = false;
            top = -1;
            pushRow();
            for (int place = 0; place < routine.size && !full; place++) {
                Op op = routine.opAt(place);
                if (op instanceof Work work) {
                    add(rows[top], 0, work.c * SCALE);
                } else if (op instanceof Call call) {
                    takeCall(call);
                } else if (op != null && op.ownKind == DONE) {
                    takeEither();
                } else if (op != null && routine.opAt(op.opener) instanceof Loop loop) {
                    takeLoop(loop);
                } else {
                    pushRow();
                }
            }
            routine.standings[side] = full ? FULL : FINE;
            if (!full) {
                keep(routine.formulas[side]);
            }
        }

        private void pushRow() {
            if (top + 1 >= MOST_ROWS) {
                full = true;
                return;
            }
            top++;
            Arrays.fill(rows[top], 0);
        }

        private void add(long[] row, int product, long scaled) {
            row[product] += scaled;
            if (row[product] > MOST_FRACTION || row[product] < -MOST_FRACTION) {
                full = true;
            }
        }

        /** The OP's own FORMULA may be FULL, and so may that of all OPS of the row up to it. */
        private void addOp() {
            for (int product = 0; product < Products.ALL; product++) {
                long scaled = ofOp[product];
                if (scaled != 0) {
                    if (scaled > MOST_FRACTION || scaled < -MOST_FRACTION) {
                        full = true;
                    }
                    add(rows[top], product, scaled);
                }
            }
        }

        private void takeEither() {
            if (top < 2) {
                return;
            }
            long[] first = rows[top - 1];
            long[] second = rows[top];
            top -= 2;
            for (int product = 0; product < Products.ALL; product++) {
                ofOp[product] = side == UPPER
                        ? Math.max(first[product], second[product])
                        : Math.min(first[product], second[product]);
            }
            ofOp[0] += SCALE;
            addOp();
        }

        private void takeLoop(Loop loop) {
            if (top < 1) {
                return;
            }
            long[] round = rows[top];
            top--;
            round[0] += SCALE;
            int powers = Products.powersOf(round);
            Arrays.fill(ofOp, 0);
            if (loop.hasFixedRounds()) {
                sumFixed(round, powers, loop);
            } else if (powers == MOST_POWERS) {
                full = true;
            } else {
                sumToExpression(round, powers, loop);
            }
            addOp();
        }

        private void sumFixed(long[] round, int powers, Loop loop) {
            int counter = loop.counter();
            int products = Products.upTo(powers);
            for (int product = 0; product < products; product++) {
                if (table.isAheadOf(product, counter)) {
                    int withCounter = product;
                    for (int k = 0; k <= powers && withCounter >= 0; k++) {
                        ofOp[product] += round[withCounter] * sumOfPowers(k, loop.first[0]);
                        withCounter = table.timesVariable(withCounter, counter);
                    }
                }
            }
        }

        private static long sumOfPowers(int k, int end) {
            long sum = 0;
            for (int i = 1; i <= end && i <= MOST_FACTOR; i++) {
                long power = 1;
                for (int factor = 0; factor < k; factor++) {
                    power *= i;
                }
                sum += power;
            }
            return sum;
        }

        /** The highest power of the EXPRESSION first: what stands is put times it, and the next one's comes to it. */
        private void sumToExpression(long[] round, int powers, Loop loop) {
            for (int j = powers + 1; j >= 1; j--) {
                int products = Products.upTo(powers + 1 - j);
                for (int product = 0; product < products; product++) {
                    ofOp[product] += factorOfPower(j, round, product, loop.counter());
                }
                table.multiply(ofOp, products, loop.first, loop.loopsAround);
            }
            for (int product = 0; product < Products.ALL; product++) {
                if (ofOp[product] % SUMS_SCALE != 0) {
                    full = true;
                }
                ofOp[product] /= SUMS_SCALE;
            }
        }

        /** What e^j has beside it, of all that is summed and is a product without the counter times powers of it. */
        private long factorOfPower(int j, long[] round, int product, int counter) {
            long sum = 0;
            int withCounter = table.isAheadOf(product, counter) ? product : Products.NO_PRODUCT;
            for (int k = 0; k < MOST_POWERS && withCounter >= 0; k++) {
                sum += SUMS[k * POWERS + j] * round[withCounter];
                withCounter = table.timesVariable(withCounter, counter);
            }
            return sum;
        }

        private void takeCall(Call call) {
            if (call.target.standings[side] != FINE) {
                full = true;
                return;
            }
            long[] formula = call.target.formulas[side];
            int powers = powersOfFormula(formula);
            Arrays.fill(ofOp, 0);
            for (int a = powers; a >= 0; a--) {
                table.multiply(ofOp, Products.upTo(powers - a - 1), call.first, call.loopsAround);
                putSecond(formula, a, powers - a, call);
                for (int product = 0; product < Products.ALL; product++) {
                    ofOp[product] += part[product];
                }
            }
            ofOp[0] += SCALE;
            addOp();
        }

        /** The part becomes what stands at x0^a, with the second EXPRESSION put in for x1. */
        private void putSecond(long[] formula, int a, int powers, Call call) {
            Arrays.fill(part, 0);
            for (int b = powers; b >= 0; b--) {
                table.multiply(part, Products.upTo(powers - b - 1), call.second, call.loopsAround);
                part[0] += formula[a * POWERS + b];
            }
        }

        private static int powersOfFormula(long[] formula) {
            int most = 0;
            for (int where = 0; where < POWERS * POWERS; where++) {
                if (formula[where] != 0) {
                    most = Math.max(most, where / POWERS + where % POWERS);
                }
            }
            return Math.min(most, MOST_POWERS);
        }

        /** Behind its last OP a ROUTINE has no counters, so x0 and x1 are all that is left. */
        private void keep(long[] formula) {
            int ofX0 = 0;
            for (int a = 0; a <= MOST_POWERS; a++) {
                int product = ofX0;
                for (int b = 0; b <= MOST_POWERS; b++) {
                    formula[a * POWERS + b] = product < 0 ? 0 : rows[0][product];
                    product = table.timesVariable(product, 1);
                }
                ofX0 = table.timesVariable(ofX0, 0);
            }
        }
    }
}

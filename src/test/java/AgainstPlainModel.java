import java.math.BigInteger;
import java.util.ArrayList;
import java.util.Collections;
import java.util.List;
import java.util.Map;
import java.util.TreeMap;

/**
 * Runs of random calls (always the same ones), each answer held against a slow model that is written
 * in another way: exact fractions without bounds, formulas as maps, trees of ops, runs by recursion.
 */
public final class AgainstPlainModel {
    private static final int NONE = -1000000, BAD = -1000001, STATE = -1000002, FULL = -1000003, SPENT = -1000004, KIND = -1000005;

    private static int wrong = 0;
    private static long calls = 0;
    private static final Map<String, Integer> seen = new TreeMap<>();

    public static void main(String[] args) {
        int rounds = args.length > 0 ? Integer.parseInt(args[0]) : 400;
        for (int seed = 1; seed <= rounds && wrong < 10; seed++) {
            new Session(seed, seed % 4).anyCalls();
            new Session(seed, seed % 4).wholeProgram();
            if (seed % 10 == 0) {
                new Session(seed, seed % 4).fineFractions();
            }
        }
        for (String kind : new String[] {"terms FULL", "terms STATE", "worth SPENT", "allowed NONE", "allowed SPENT",
            "allowed FULL", "sure FULL", "sure yes", "sure no", "only one side FULL", "fraction below 0", "finer than 8640",
            "greater than 10^6", "too many powers"}) {
            if (args.length == 0 && !seen.containsKey(kind)) {
                wrong++;
                System.out.println("these runs never came to: " + kind);
            }
        }
        System.out.println(calls + " calls, " + wrong + " of them wrong; " + seen);
        if (wrong != 0) {
            System.exit(1);
        }
    }

    private static void note(String kind) {
        seen.merge(kind, 1, Integer::sum);
    }

    // ---- exact formulas

    private record Fraction(BigInteger upper, BigInteger lower) {
        static Fraction of(long upper, long lower) {
            return reduced(BigInteger.valueOf(upper), BigInteger.valueOf(lower));
        }

        static Fraction reduced(BigInteger upper, BigInteger lower) {
            BigInteger common = upper.gcd(lower).multiply(BigInteger.valueOf(lower.signum()));
            return new Fraction(upper.divide(common), lower.divide(common));
        }

        Fraction plus(Fraction other) {
            return reduced(upper.multiply(other.lower).add(other.upper.multiply(lower)), lower.multiply(other.lower));
        }

        Fraction times(Fraction other) {
            return reduced(upper.multiply(other.upper), lower.multiply(other.lower));
        }

        int compare(Fraction other) {
            return upper.multiply(other.lower).compareTo(other.upper.multiply(lower));
        }

        BigInteger floor() {
            BigInteger[] parts = upper.divideAndRemainder(lower);
            return parts[1].signum() < 0 ? parts[0].subtract(BigInteger.ONE) : parts[0];
        }

        BigInteger ceiling() {
            return new Fraction(upper.negate(), lower).floor().negate();
        }
    }

    private static final class Formula {
        /** Powers of x0, x1, i0, i1, i2 as digits, x0's the highest. */
        final TreeMap<Integer, Fraction> terms = new TreeMap<>(Collections.reverseOrder());
        private static final int[] DIGIT = {10000, 1000, 100, 10, 1};

        static Formula constant(long c) {
            return new Formula().with(0, Fraction.of(c, 1));
        }

        static Formula expression(int[] factors, int around) {
            Formula sum = constant(factors[0]);
            for (int v = 0; v < 2 + around; v++) {
                sum.with(DIGIT[v], Fraction.of(factors[1 + v], 1));
            }
            return sum;
        }

        Formula with(int powers, Fraction fraction) {
            Fraction sum = fraction.plus(at(powers));
            if (sum.upper.signum() == 0) {
                terms.remove(powers);
            } else {
                terms.put(powers, sum);
            }
            return this;
        }

        Fraction at(int powers) {
            return terms.getOrDefault(powers, Fraction.of(0, 1));
        }

        Formula plus(Formula other) {
            Formula sum = new Formula();
            terms.forEach(sum::with);
            other.terms.forEach(sum::with);
            return sum;
        }

        Formula times(Formula other) {
            Formula product = new Formula();
            terms.forEach((p, f) -> other.terms.forEach((q, g) -> product.with(p + q, f.times(g))));
            return product;
        }

        Formula power(int k) {
            Formula product = constant(1);
            for (int i = 0; i < k; i++) {
                product = product.times(this);
            }
            return product;
        }

        static int power(int powers, int variable) {
            return powers / DIGIT[variable] % 10;
        }

        int mostPowers() {
            int most = 0;
            for (int powers : terms.keySet()) {
                int all = 0;
                for (int v = 0; v < 5; v++) {
                    all += power(powers, v);
                }
                most = Math.max(most, all);
            }
            return most;
        }

        Formula putIn(Formula x0, Formula x1) {
            Formula sum = new Formula();
            for (Map.Entry<Integer, Fraction> term : terms.entrySet()) {
                Formula product = x0.power(power(term.getKey(), 0)).times(x1.power(power(term.getKey(), 1)));
                sum = sum.plus(new Formula().with(0, term.getValue()).times(product));
            }
            return sum;
        }

        Formula summed(int variable, Formula end) {
            Formula sum = new Formula();
            for (Map.Entry<Integer, Fraction> term : terms.entrySet()) {
                int k = power(term.getKey(), variable);
                Formula rest = new Formula().with(term.getKey() - k * DIGIT[variable], term.getValue());
                sum = sum.plus(rest.times(sumOfPowers(k, end)));
            }
            return sum;
        }

        /** From the telescope (e+1)^(k+1) - 1 = sum over j of C(k+1, j) S_j, for j up to k. */
        static Formula sumOfPowers(int k, Formula end) {
            Formula all = end.plus(constant(1)).power(k + 1).plus(constant(-1));
            for (int j = 0; j < k; j++) {
                all = all.plus(constant(-choose(k + 1, j)).times(sumOfPowers(j, end)));
            }
            return all.times(new Formula().with(0, Fraction.of(1, k + 1)));
        }

        static long choose(int n, int k) {
            return k == 0 || k == n ? 1 : choose(n - 1, k - 1) + choose(n - 1, k);
        }

        static Formula chosen(Formula a, Formula b, boolean greater) {
            Formula both = new Formula();
            for (Formula one : List.of(a, b)) {
                for (int powers : one.terms.keySet()) {
                    boolean first = a.at(powers).compare(b.at(powers)) > 0 == greater;
                    both.terms.remove(powers);
                    both.with(powers, first ? a.at(powers) : b.at(powers));
                }
            }
            return both;
        }

        Fraction value(int x0, int x1) {
            Formula put = putIn(constant(x0), constant(x1));
            return put.at(0);
        }

        Formula checked() throws FullException {
            if (mostPowers() > 5) {
                note("too many powers");
                throw new FullException();
            }
            Fraction most = Fraction.of(1000000, 1);
            Fraction least = Fraction.of(-1000000, 1);
            for (Fraction fraction : terms.values()) {
                if (fraction.compare(most) > 0 || fraction.compare(least) < 0) {
                    note("greater than 10^6");
                    throw new FullException();
                }
                if (BigInteger.valueOf(8640).mod(fraction.lower).signum() != 0) {
                    note("finer than 8640");
                    throw new FullException();
                }
            }
            return this;
        }
    }

    private static final class FullException extends Exception {
    }

    private static final class SpentException extends Exception {
    }

    // ---- the model

    private record Op(int kind, int c, int called, int[] first, int[] second) {
        boolean counted() {
            return kind == 3 || kind == 4;
        }
    }

    private static final class Model {
        final List<List<Op>> routines = new ArrayList<>();
        final int[][] told = new int[2][6];
        final List<Integer> bodies = new ArrayList<>();
        int lot = 1;
        int comings;

        boolean none(int routine) {
            return routine < 0 || routine >= routines.size();
        }

        boolean none(int routine, int op) {
            return none(routine) || op < 0 || op >= routines.get(routine).size();
        }

        int routine() {
            if (routines.size() == 8) {
                return FULL;
            }
            routines.add(new ArrayList<>());
            return routines.size() - 1;
        }

        int expression(int which, int... factors) {
            for (int factor : factors) {
                if (factor < 0 || factor > 2) {
                    return BAD;
                }
            }
            if (which != 0 && which != 1) {
                return BAD;
            }
            told[which] = factors.clone();
            return 1;
        }

        int add(int routine, Op op) {
            List<Op> ops = routines.get(routine);
            if (ops.size() == 24) {
                return FULL;
            }
            ops.add(op);
            return ops.size() - 1;
        }

        /** What is open behind the first ops: 3 a loop, 5 an either, 7 an either with its or. */
        List<Integer> open(int routine, int ops) {
            List<Integer> open = new ArrayList<>();
            for (int i = 0; i < ops; i++) {
                int kind = routines.get(routine).get(i).kind;
                if (kind >= 6) {
                    open.remove(open.size() - 1);
                }
                if (kind == 3 || kind == 5 || kind == 7) {
                    open.add(kind);
                }
            }
            return open;
        }

        List<Integer> open(int routine) {
            return open(routine, routines.get(routine).size());
        }

        int work(int routine, int c) {
            return none(routine) || c < 1 || c > 99 ? BAD : add(routine, new Op(1, c, 0, null, null));
        }

        int loop(int routine) {
            if (none(routine)) {
                return BAD;
            }
            if (Collections.frequency(open(routine), 3) == 3) {
                return STATE;
            }
            return add(routine, new Op(3, 0, 0, told[0], null));
        }

        int call(int routine, int called) {
            if (none(routine) || none(called) || called >= routine) {
                return BAD;
            }
            return add(routine, new Op(4, 0, called, told[0], told[1]));
        }

        int either(int routine) {
            return none(routine) ? BAD : add(routine, new Op(5, 0, 0, null, null));
        }

        int close(int routine, int kind) {
            if (none(routine) || kind < 6 || kind > 8) {
                return BAD;
            }
            List<Integer> open = open(routine);
            int[] due = {3, 5, 7};
            if (open.isEmpty() || open.get(open.size() - 1) != due[kind - 6]) {
                return STATE;
            }
            return add(routine, new Op(kind, 0, 0, null, null));
        }

        int back(int routine) {
            if (none(routine)) {
                return BAD;
            }
            List<Op> ops = routines.get(routine);
            if (ops.isEmpty()) {
                return STATE;
            }
            ops.remove(ops.size() - 1);
            return ops.size();
        }

        int kind(int routine, int op) {
            return none(routine, op) ? BAD : routines.get(routine).get(op).kind;
        }

        int is(int routine, int op, int kind) {
            if (none(routine, op) || kind < 0 || kind > 8) {
                return BAD;
            }
            Op asked = routines.get(routine).get(op);
            return kind == 0 || kind == asked.kind || kind == 2 && asked.counted() ? 1 : 0;
        }

        int told(int routine, int op, int which) {
            if (none(routine, op) || which < 0 || which > 5) {
                return BAD;
            }
            Op asked = routines.get(routine).get(op);
            return asked.counted() ? asked.first[which] : KIND;
        }

        static int notZero(int[] factors) {
            int all = 0;
            for (int factor : factors) {
                all += factor == 0 ? 0 : 1;
            }
            return all;
        }

        int ask(int routine, int op, int what) {
            if (none(routine, op) || what != 0 && what != 1) {
                return BAD;
            }
            bodies.clear();
            Op asked = routines.get(routine).get(op);
            if (what == 0) {
                return size(asked);
            }
            switch (asked.kind) {
                case 3:
                    bodies.addAll(List.of(22, 21, 20));
                    return op + size(asked) + 1 + Collections.frequency(open(routine, op), 3);
                case 4:
                    bodies.add(23);
                    return asked.called;
                case 5:
                    bodies.addAll(List.of(24, 20));
                    return 2 * op;
                default:
                    bodies.add(20);
                    return op;
            }
        }

        int size(Op op) {
            switch (op.kind) {
                case 1:
                    bodies.add(13);
                    return op.c;
                case 3:
                    bodies.addAll(List.of(11, 10));
                    return 1 + notZero(op.first);
                case 4:
                    bodies.addAll(List.of(12, 11, 10));
                    return 1 + notZero(op.first) + notZero(op.second);
                default:
                    bodies.add(10);
                    return 1;
            }
        }

        int trace(int i) {
            return i < 0 || i >= bodies.size() ? NONE : bodies.get(i);
        }

        boolean whole(int routine) {
            if (!open(routine).isEmpty()) {
                return false;
            }
            for (Op op : routines.get(routine)) {
                if (op.kind == 4 && !whole(op.called)) {
                    return false;
                }
            }
            return true;
        }

        // -- formulas

        Formula formula(int routine, int side) throws FullException {
            return row(routine, new int[] {0}, 0, side);
        }

        Formula row(int routine, int[] at, int around, int side) throws FullException {
            List<Op> ops = routines.get(routine);
            Formula sum = new Formula();
            while (at[0] < ops.size() && ops.get(at[0]).kind < 6) {
                sum = sum.plus(one(routine, at, around, side).checked()).checked();
            }
            at[0]++;
            return sum;
        }

        Formula one(int routine, int[] at, int around, int side) throws FullException {
            Op op = routines.get(routine).get(at[0]++);
            Formula step = Formula.constant(1);
            switch (op.kind) {
                case 1:
                    return Formula.constant(op.c);
                case 3:
                    Formula round = step.plus(row(routine, at, around + 1, side));
                    Formula end = Formula.expression(op.first, around);
                    if (round.mostPowers() == 5 && end.mostPowers() > 0) {
                        note("too many powers");
                        throw new FullException();
                    }
                    return round.summed(2 + around, end);
                case 4:
                    Formula x0 = Formula.expression(op.first, around);
                    Formula x1 = Formula.expression(op.second, around);
                    return step.plus(formula(op.called, side).putIn(x0, x1));
                default:
                    Formula first = row(routine, at, around, side);
                    Formula second = row(routine, at, around, side);
                    return step.plus(Formula.chosen(first, second, side == 1));
            }
        }

        /** BAD or STATE, or 0. */
        int refusal(int routine, int side) {
            if (none(routine) || side != 0 && side != 1) {
                return BAD;
            }
            return whole(routine) ? 0 : STATE;
        }

        int terms(int routine, int side) {
            int refusal = refusal(routine, side);
            if (refusal != 0) {
                return refusal;
            }
            try {
                return formula(routine, side).terms.size();
            } catch (FullException full) {
                return FULL;
            }
        }

        long term(int routine, int side, int t, int what) {
            int refusal = refusal(routine, side);
            if (refusal == BAD || t < 0 || what < 0 || what > 3) {
                return BAD;
            }
            if (refusal != 0) {
                return refusal;
            }
            try {
                Formula formula = formula(routine, side);
                if (t >= formula.terms.size()) {
                    return BAD;
                }
                int powers = new ArrayList<>(formula.terms.keySet()).get(t);
                Fraction fraction = formula.at(powers);
                if (fraction.upper.signum() < 0) {
                    note("fraction below 0");
                }
                long[] all = {fraction.upper.longValueExact(), fraction.lower.longValueExact(),
                    Formula.power(powers, 0), Formula.power(powers, 1)};
                return all[what];
            } catch (FullException full) {
                return FULL;
            }
        }

        long value(int routine, int side, int x0, int x1) {
            int refusal = refusal(routine, side);
            if (refusal == BAD || !inputs(x0, x1)) {
                return BAD;
            }
            if (refusal != 0) {
                return refusal;
            }
            try {
                Fraction value = formula(routine, side).value(x0, x1);
                return (side == 1 ? value.floor() : value.ceiling()).longValueExact();
            } catch (FullException full) {
                return FULL;
            }
        }

        static boolean inputs(int x0, int x1) {
            return x0 >= 0 && x0 <= 20 && x1 >= 0 && x1 <= 20;
        }

        int sure(int routine) {
            int refusal = refusal(routine, 0);
            if (refusal != 0) {
                return refusal;
            }
            try {
                return formula(routine, 0).terms.equals(formula(routine, 1).terms) ? 1 : 0;
            } catch (FullException full) {
                return FULL;
            }
        }

        // -- runs

        int worth(int routine, int x0, int x1, int way) {
            if (none(routine) || !inputs(x0, x1) || way < 0 || way > 4) {
                return BAD;
            }
            if (!whole(routine)) {
                return STATE;
            }
            comings = 0;
            try {
                return (int) run(routine, x0, x1, way);
            } catch (SpentException spent) {
                return SPENT;
            }
        }

        void come() throws SpentException {
            comings++;
            if (comings == 20001) {
                throw new SpentException();
            }
        }

        long run(int routine, long x0, long x1, int way) throws SpentException {
            return runRow(routine, 0, new long[] {1, x0, x1, 0, 0, 0}, 0, way);
        }

        static long value(int[] factors, long[] now) {
            long sum = 0;
            for (int i = 0; i < 6; i++) {
                sum += factors[i] * now[i];
            }
            return sum;
        }

        /** The place of what closes the row that begins at a place. */
        int endOfRow(int routine, int from) {
            List<Op> ops = routines.get(routine);
            int at = from;
            while (at < ops.size() && ops.get(at).kind < 6) {
                at = behind(routine, at);
            }
            return at;
        }

        int behind(int routine, int op) {
            int kind = routines.get(routine).get(op).kind;
            if (kind == 3) {
                return endOfRow(routine, op + 1) + 1;
            }
            if (kind == 5) {
                return endOfRow(routine, endOfRow(routine, op + 1) + 1) + 1;
            }
            return op + 1;
        }

        long runRow(int routine, int from, long[] now, int around, int way) throws SpentException {
            List<Op> ops = routines.get(routine);
            long steps = 0;
            for (int at = from; at < ops.size() && ops.get(at).kind < 6; at = behind(routine, at)) {
                Op op = ops.get(at);
                if (op.kind == 1) {
                    steps += op.c;
                } else if (op.kind == 3) {
                    long end = value(op.first, now);
                    for (long i = 1; i <= end; i++) {
                        come();
                        long[] inner = now.clone();
                        inner[3 + around] = i;
                        steps += 1 + runRow(routine, at + 1, inner, around + 1, way);
                    }
                } else if (op.kind == 4) {
                    come();
                    steps += 1 + run(op.called, value(op.first, now), value(op.second, now), way);
                } else {
                    steps += 1 + runEither(routine, at, now, around, way);
                }
            }
            return steps;
        }

        long runEither(int routine, int at, long[] now, int around, int way) throws SpentException {
            come();
            int second = endOfRow(routine, at + 1) + 1;
            if (way >= 3) {
                long a = runRow(routine, at + 1, now, around, way);
                long b = runRow(routine, second, now, around, way);
                return way == 3 ? Math.max(a, b) : Math.min(a, b);
            }
            boolean takeSecond = way == 1;
            if (way == 2) {
                long next = ((lot & 0xffffffffL) * 1103515245L + 12345L) & 0xffffffffL;
                lot = (int) next;
                takeSecond = (next / 65536) % 2 == 1;
            }
            return runRow(routine, takeSecond ? second : at + 1, now, around, way);
        }

        int lot(int z) {
            lot = z;
            return 1;
        }

        int allowed(int routine, int x0, int x1, int budget) {
            if (none(routine) || !inputs(x0, x1) || budget < 0) {
                return BAD;
            }
            long value = value(routine, 1, x0, x1);
            if (value < 0) {
                return (int) value;
            }
            return value > budget ? NONE : worth(routine, x0, x1, 2);
        }

        int count(int what) {
            int[] all = new int[5];
            for (int r = 0; r < routines.size(); r++) {
                all[0]++;
                all[1] += routines.get(r).size();
                all[2] += open(r).isEmpty() ? 1 : 0;
                all[3] += what == 3 && sure(r) == 1 ? 1 : 0;
                for (Op op : routines.get(r)) {
                    all[4] += op.kind == 4 ? 1 : 0;
                }
            }
            return what < 0 || what > 4 ? BAD : all[what];
        }
    }

    // ---- the runs

    private static final class Session {
        final StepsAhead real = new StepsAhead();
        final Model model = new Model();
        final int seed;
        final int taste;
        long random;
        final StringBuilder log = new StringBuilder();

        Session(int seed, int taste) {
            this.seed = seed;
            this.taste = taste;
            random = seed * 1000003L + 17;
            pick(2);
            pick(2);
        }

        int pick(int below) {
            random = random * 6364136223846793005L + 1442695040888963407L;
            return (int) ((random >>> 33) % below);
        }

        boolean chance(int percent) {
            return pick(100) < percent;
        }

        long same(String call, long got, long want) {
            calls++;
            log.append(call).append(" -> ").append(want).append('\n');
            if (got != want) {
                wrong++;
                System.out.println("seed " + seed + ":\n" + log + "... answered " + got);
            }
            if (want == FULL || want == STATE || want == SPENT || want == NONE) {
                String[] names = {"NONE", "BAD", "STATE", "FULL", "SPENT"};
                note(call.substring(0, call.indexOf('(')) + " " + names[(int) (NONE - want)]);
            }
            return want;
        }

        // -- one call each

        void routine() {
            same("routine()", real.routine(), model.routine());
        }

        void expression(int which, int... f) {
            same("expression(" + which + ", " + java.util.Arrays.toString(f) + ")",
                    real.expression(which, f[0], f[1], f[2], f[3], f[4], f[5]), model.expression(which, f));
        }

        void work(int r, int c) {
            same("work(" + r + ", " + c + ")", real.work(r, c), model.work(r, c));
        }

        void loop(int r) {
            same("loop(" + r + ")", real.loop(r), model.loop(r));
        }

        void call(int r, int called) {
            same("call(" + r + ", " + called + ")", real.call(r, called), model.call(r, called));
        }

        void either(int r) {
            same("either(" + r + ")", real.either(r), model.either(r));
        }

        void close(int r, int kind) {
            same("close(" + r + ", " + kind + ")", real.close(r, kind), model.close(r, kind));
        }

        void back(int r) {
            same("back(" + r + ")", real.back(r), model.back(r));
        }

        void worth(int r, int x0, int x1, int way) {
            same("worth(" + r + ", " + x0 + ", " + x1 + ", " + way + ")", real.worth(r, x0, x1, way), model.worth(r, x0, x1, way));
        }

        long value(int r, int side, int x0, int x1) {
            return same("value(" + r + ", " + side + ", " + x0 + ", " + x1 + ")", real.value(r, side, x0, x1), model.value(r, side, x0, x1));
        }

        void allowed(int r, int x0, int x1, int budget) {
            same("allowed(" + r + ", " + x0 + ", " + x1 + ", " + budget + ")", real.allowed(r, x0, x1, budget), model.allowed(r, x0, x1, budget));
        }

        void term(int r, int side, int t, int what) {
            same("term(" + r + ", " + side + ", " + t + ", " + what + ")", real.term(r, side, t, what), model.term(r, side, t, what));
        }

        void ask(int r, int op, int what) {
            same("ask(" + r + ", " + op + ", " + what + ")", real.ask(r, op, what), model.ask(r, op, what));
            for (int i = -1; i < 7; i++) {
                same("trace(" + i + ")", real.trace(i), model.trace(i));
            }
        }

        void look(int r, int op) {
            same("kind(" + r + ", " + op + ")", real.kind(r, op), model.kind(r, op));
            int kind = pick(11) - 1;
            same("is(" + r + ", " + op + ", " + kind + ")", real.is(r, op, kind), model.is(r, op, kind));
            int which = pick(8) - 1;
            same("told(" + r + ", " + op + ", " + which + ")", real.told(r, op, which), model.told(r, op, which));
            ask(r, op, chance(5) ? 2 : pick(2));
        }

        // -- runs of calls

        /** A few routines, each call of any kind, with numbers that are now and then wrong. */
        void anyCalls() {
            int all = 150 + pick(150);
            for (int i = 0; i < all && wrong == 0; i++) {
                anyCall(number(model.routines.size()));
            }
        }

        int number(int below) {
            return chance(3) ? pick(5) * 9 - 9 : pick(Math.max(1, below));
        }

        void anyCall(int r) {
            switch (pick(20)) {
                case 0:
                    if (chance(40)) {
                        routine();
                    }
                    break;
                case 1:
                case 2:
                    someExpression();
                    break;
                case 3:
                    work(r, chance(5) ? pick(3) * 50 : 1 + pick(99));
                    break;
                case 4:
                case 5:
                    loop(r);
                    break;
                case 6:
                    call(r, number(r + 1));
                    break;
                case 7:
                    either(r);
                    break;
                case 8:
                case 9:
                case 10:
                    close(r, chance(5) ? pick(12) : 6 + pick(3));
                    break;
                case 11:
                    back(r);
                    break;
                case 12:
                    look(r, number(model.none(r) ? 0 : model.routines.get(r).size()));
                    break;
                case 13:
                    same("terms(" + r + ", 1)", real.terms(r, 1), model.terms(r, 1));
                    break;
                case 14:
                    term(r, number(2), pick(4) - 1, pick(5) - (chance(5) ? 1 : 0));
                    break;
                case 15:
                    value(r, number(2), number(21), number(21));
                    break;
                case 16:
                    same("sure(" + r + ")", real.sure(r), model.sure(r));
                    break;
                case 17:
                    worth(r, number(7), number(7), number(5));
                    break;
                case 18:
                    allowed(r, number(5), number(5), chance(5) ? -1 : pick(500));
                    break;
                default:
                    int what = pick(7) - 1;
                    same("count(" + what + ")", real.count(what), model.count(what));
                    if (chance(30)) {
                        int z = (int) random;
                        same("lot(" + z + ")", real.lot(z), model.lot(z));
                    }
                    break;
            }
        }

        void someExpression() {
            int[] f = new int[6];
            int sparse = taste == 0 ? 70 : taste == 1 ? 80 : 50;
            for (int i = 0; i < 6; i++) {
                f[i] = chance(sparse) ? 0 : chance(1) ? pick(5) - 1 : 1 + pick(2);
            }
            expression(chance(2) ? 2 : pick(2), f);
        }

        /** Some routines that are made whole, then asked for all. */
        void wholeProgram() {
            int routines = 1 + pick(taste == 3 ? 8 : 5);
            for (int r = 0; r < routines; r++) {
                routine();
                int ops = 3 + pick(14);
                for (int i = 0; i < ops; i++) {
                    grow(r);
                }
                closeAll(r);
            }
            for (int r = 0; r < routines && wrong == 0; r++) {
                askAll(r);
            }
            int changed = pick(routines);
            back(changed);
            closeAll(changed);
            for (int r = 0; r < routines && wrong == 0; r++) {
                same("sure(" + r + ")", real.sure(r), model.sure(r));
                value(r, 1, 1 + pick(3), 1 + pick(3));
                value(r, 0, 1 + pick(3), 1 + pick(3));
            }
        }

        /**
         * Of both parts of routine 1 only x0^3 x1 is alike, so its lower side has next to nothing else:
         * a sum of such has a fraction below 0, and an either with nothing leaves that one alone, to be
         * summed till it is too fine.
         */
        void fineFractions() {
            for (int r = 0; r < 6; r++) {
                routine();
            }
            expression(0, 0, 0, 1 + pick(2), 0, 0, 0);
            nest(0, 1);
            closeAll(0);
            either(1);
            expression(0, 0, 1 + pick(2), 0, 0, 0, 0);
            expression(1, 0, 0, 1 + pick(2), 0, 0, 0);
            nest(1, 3);
            call(1, 0);
            for (int i = 0; i < 3; i++) {
                close(1, 6);
            }
            close(1, 7);
            expression(0, 0, 0, 1 + pick(2), 0, 0, 0);
            nest(1, 1);
            expression(0, 0, 1 + pick(2), 0, 0, 0, 0);
            expression(1, 0, 1 + pick(2), 0, 0, 0, 0);
            nest(1, 2);
            call(1, 0);
            closeAll(1);
            summedCall(2, 1, 1 + pick(2));
            either(3);
            expression(0, pick(2), 1, 0, 0, 0, 0);
            call(3, 2);
            closeAll(3);
            expression(0, 0, 1, 0, 0, 0, 0);
            nest(4, 1);
            expression(0, pick(2), 0, 0, 1, 0, 0);
            nest(4, 1);
            expression(0, 0, 0, 0, 0, 1, 0);
            nest(4, pick(2));
            expression(0, 0, 0, 0, 0, pick(2), 1);
            call(4, 3);
            closeAll(4);
            summedCall(5, 4, 1);
            for (int r = 0; r < 6 && wrong == 0; r++) {
                askAll(r);
            }
        }

        void nest(int r, int loops) {
            for (int i = 0; i < loops; i++) {
                loop(r);
            }
        }

        void summedCall(int r, int called, int factor) {
            expression(0, 0, 1, 0, 0, 0, 0);
            loop(r);
            expression(0, 0, 0, 0, factor, 0, 0);
            expression(1, 0, 0, 0, factor, 0, 0);
            call(r, called);
            close(r, 6);
        }

        void grow(int r) {
            someExpression();
            int chosen = pick(10);
            List<Integer> open = model.open(r);
            if (chosen < 2) {
                work(r, 1 + pick(chance(50) ? 9 : 99));
            } else if (chosen < 4) {
                loop(r);
            } else if (chosen < 6 && r > 0) {
                call(r, r - 1 - pick(Math.min(r, 2)));
            } else if (chosen < 7) {
                either(r);
            } else if (!open.isEmpty() && chance(taste == 2 ? 40 : 80)) {
                closeInnermost(r, open);
            }
        }

        void closeInnermost(int r, List<Integer> open) {
            int inner = open.get(open.size() - 1);
            close(r, inner == 3 ? 6 : inner == 5 ? 7 : 8);
        }

        void closeAll(int r) {
            for (int i = 0; i < 60 && !model.open(r).isEmpty(); i++) {
                if (model.routines.get(r).size() == 24) {
                    for (int j = 0; j < 8; j++) {
                        back(r);
                    }
                }
                if (!model.open(r).isEmpty()) {
                    closeInnermost(r, model.open(r));
                }
            }
        }

        void askAll(int r) {
            int[] terms = new int[2];
            for (int side = 0; side < 2; side++) {
                terms[side] = (int) same("terms(" + r + ", " + side + ")", real.terms(r, side), model.terms(r, side));
                for (int t = 0; t < terms[side] + 1; t++) {
                    for (int what = 0; what < 4; what++) {
                        term(r, side, t, what);
                    }
                }
            }
            if (terms[0] == FULL ^ terms[1] == FULL) {
                note("only one side FULL");
            }
            long sure = same("sure(" + r + ")", real.sure(r), model.sure(r));
            note("sure " + (sure == 1 ? "yes" : sure == 0 ? "no" : "else"));
            for (int i = 0; i < 3; i++) {
                askInputs(r, pick(i == 0 ? 4 : 21), pick(i == 0 ? 4 : 21));
            }
            if (r == 0) {
                same("count(3)", real.count(3), model.count(3));
            }
        }

        void askInputs(int r, int x0, int x1) {
            long lower = value(r, 0, x0, x1);
            long upper = value(r, 1, x0, x1);
            for (int way = 0; way < 5; way++) {
                worth(r, x0, x1, way);
                int steps = real.worth(r, x0, x1, way == 2 ? 3 : way);
                if (steps >= 0 && (lower != FULL && lower > steps || upper != FULL && upper < steps)) {
                    same("lower and upper of(" + r + ")", 0, 1);
                }
            }
            allowed(r, x0, x1, (int) Math.max(0, Math.min(upper + pick(3) - 1, Integer.MAX_VALUE)));
            allowed(r, x0, x1, Integer.MAX_VALUE);
            worth(r, x0, x1, 2);
        }
    }
}

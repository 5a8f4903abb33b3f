import java.util.ArrayList;
import java.util.Arrays;
import java.util.List;
import java.util.NoSuchElementException;
import java.util.TreeSet;
import java.util.regex.Pattern;

/**
 * The document once more, as slowly and plainly as it reads: days go by one at a time, cans that are possible are
 * mixed on a copy, all corrections are tried, texts are matched by a pattern. RandomRunsTest compares TintDesk with it.
 */
final class ReferenceDesk {
    private static final class Lot {
        final int number;
        int steps;
        final int lastDay;

        Lot(int number, int steps, int lastDay) {
            this.number = number;
            this.steps = steps;
            this.lastDay = lastDay;
        }
    }

    private static final class Colorant {
        int[] values;
        int life = 60;
        int refilled, pumped, recalled, wasted;
        List<Lot> lots = new ArrayList<>();

        Colorant copy() {
            Colorant c = new Colorant();
            c.values = values;
            c.life = life;
            c.refilled = refilled;
            c.pumped = pumped;
            c.recalled = recalled;
            c.wasted = wasted;
            for (Lot lot : lots) {
                c.lots.add(new Lot(lot.number, lot.steps, lot.lastDay));
            }
            return c;
        }

        int inside() {
            return lots.stream().mapToInt(lot -> lot.steps).sum();
        }
    }

    private static final class Base {
        int[] values;
        int limit, stock, cans;

        Base copy() {
            Base b = new Base();
            b.values = values;
            b.limit = limit;
            b.stock = stock;
            b.cans = cans;
            return b;
        }
    }

    private static final class Formula {
        int base;
        int[] amounts = new int[8];
        int[] carries = new int[8];

        Formula copy() {
            Formula f = new Formula();
            f.base = base;
            f.amounts = amounts.clone();
            f.carries = carries.clone();
            return f;
        }
    }

    private static final class Can {
        int formula, base, corrections, added;
        int[] steps = new int[8];
        List<TreeSet<Integer>> lots = new ArrayList<>();

        Can copy() {
            Can c = new Can();
            c.formula = formula;
            c.base = base;
            c.corrections = corrections;
            c.added = added;
            c.steps = steps.clone();
            for (TreeSet<Integer> set : lots) {
                c.lots.add(new TreeSet<>(set));
            }
            return c;
        }

        int all() {
            return Arrays.stream(steps).sum();
        }
    }

    private static final class State {
        int today;
        List<Colorant> colorants = new ArrayList<>();
        List<Base> bases = new ArrayList<>();
        List<Formula> formulas = new ArrayList<>();
        List<Can> cans = new ArrayList<>();

        State copy() {
            State s = new State();
            s.today = today;
            colorants.forEach(c -> s.colorants.add(c.copy()));
            bases.forEach(b -> s.bases.add(b.copy()));
            formulas.forEach(f -> s.formulas.add(f.copy()));
            cans.forEach(c -> s.cans.add(c.copy()));
            return s;
        }
    }

    private static final Pattern WHOLE =
        Pattern.compile("b[0-9]:[0-9]=(0|[1-9][0-9]{0,3})(,[0-9]=(0|[1-9][0-9]{0,3}))*");

    private State now = new State();
    private State saved = null;
    private final List<State> before = new ArrayList<>();
    private String buffer = "";
    private int fault = -1;
    private int reason = 0;
    private int lackingColorant = -1;

    private void change() {
        before.add(now.copy());
        if (before.size() > 8) {
            before.remove(0);
        }
    }

    private static void range(int value, int low, int high) {
        if (value < low || value > high) {
            throw new IllegalArgumentException();
        }
    }

    private static <T> T item(List<T> list, int index) {
        if (index < 0 || index >= list.size()) {
            throw new IndexOutOfBoundsException();
        }
        return list.get(index);
    }

    private void refuse(int why, int colorant) {
        reason = why;
        lackingColorant = colorant;
        throw new UnsupportedOperationException();
    }

    int addColorant(int first, int second, int third) {
        range(first, 0, 9);
        range(second, 0, 9);
        range(third, 0, 9);
        if (now.colorants.size() == 8) {
            throw new IllegalStateException();
        }
        change();
        Colorant made = new Colorant();
        made.values = new int[] {first, second, third};
        now.colorants.add(made);
        return now.colorants.size() - 1;
    }

    int setLife(int colorant, int life) {
        Colorant c = item(now.colorants, colorant);
        range(life, 1, 99);
        change();
        int old = c.life;
        c.life = life;
        return old;
    }

    int refill(int colorant, int lot, int steps) {
        Colorant c = item(now.colorants, colorant);
        range(lot, 0, 99);
        range(steps, 1, 500);
        if (c.lots.size() == 12) {
            refuse(2, -1);
        }
        change();
        c.lots.add(new Lot(lot, steps, now.today + c.life));
        c.refilled += steps;
        return c.inside();
    }

    int recall(int colorant, int lot) {
        Colorant c = item(now.colorants, colorant);
        range(lot, 0, 99);
        change();
        int old = c.inside();
        c.lots.removeIf(l -> l.number == lot);
        c.recalled += old - c.inside();
        return old - c.inside();
    }

    int colorant(int colorant, int what) {
        Colorant c = item(now.colorants, colorant);
        range(what, 0, 9);
        int[] all = {c.values[0], c.values[1], c.values[2], c.inside(), c.lots.size(), c.refilled, c.pumped,
            c.recalled, c.wasted, c.life};
        return all[what];
    }

    int lot(int colorant, int index, int what) {
        Colorant c = item(now.colorants, colorant);
        if (index < 0 || index >= c.lots.size()) {
            throw new NoSuchElementException();
        }
        range(what, 0, 2);
        Lot lot = c.lots.get(index);
        return new int[] {lot.number, lot.steps, lot.lastDay}[what];
    }

    int pass(int days) {
        range(days, 1, 99);
        range(now.today + days, 0, 400);
        change();
        int gone = 0;
        for (int day = 0; day < days; day++) {
            now.today++;
            for (Colorant c : now.colorants) {
                int old = c.inside();
                c.lots.removeIf(lot -> lot.lastDay < now.today);
                c.wasted += old - c.inside();
                gone += old - c.inside();
            }
        }
        return gone;
    }

    int addBase(int first, int second, int third, int limit) {
        range(first, 0, 99);
        range(second, 0, 99);
        range(third, 0, 99);
        range(limit, 0, 200);
        if (now.bases.size() == 6) {
            throw new IllegalStateException();
        }
        change();
        Base made = new Base();
        made.values = new int[] {first, second, third};
        made.limit = limit;
        now.bases.add(made);
        return now.bases.size() - 1;
    }

    int setStock(int base, int stock) {
        Base b = item(now.bases, base);
        range(stock, 0, 99);
        change();
        int old = b.stock;
        b.stock = stock;
        return old;
    }

    int base(int base, int what) {
        Base b = item(now.bases, base);
        range(what, 0, 5);
        return new int[] {b.values[0], b.values[1], b.values[2], b.limit, b.stock, b.cans}[what];
    }

    void append(char c) {
        if (buffer.length() == 60) {
            throw new IllegalStateException();
        }
        buffer += c;
    }

    /** A beginning can be continued to a text if one of these ends makes it one. */
    private static boolean canContinue(String beginning) {
        String[] ends = {"", "b0:0=0", "0:0=0", ":0=0", "0=0", "=0", "0"};
        for (String end : ends) {
            if (WHOLE.matcher(beginning + end).matches()) {
                return true;
            }
        }
        return false;
    }

    private static int faultOf(String text) {
        if (WHOLE.matcher(text).matches()) {
            return -1;
        }
        int good = 0;
        while (good < text.length() && canContinue(text.substring(0, good + 1))) {
            good++;
        }
        return good;
    }

    int readFormula() {
        String text = buffer;
        buffer = "";
        fault = faultOf(text);
        if (fault >= 0) {
            throw new IllegalArgumentException();
        }
        Formula made = new Formula();
        made.base = text.charAt(1) - '0';
        boolean isThere = made.base < now.bases.size();
        for (String part : text.substring(3).split(",")) {
            int colorant = part.charAt(0) - '0';
            if (colorant >= now.colorants.size()) {
                isThere = false;
            } else {
                made.amounts[colorant] = Integer.parseInt(part.substring(2));
            }
        }
        if (!isThere) {
            refuse(1, -1);
        }
        if (now.formulas.size() == 10) {
            refuse(2, -1);
        }
        change();
        now.formulas.add(made);
        return now.formulas.size() - 1;
    }

    int faultPosition() {
        return fault;
    }

    int setAmount(int formula, int colorant, int amount) {
        Formula f = item(now.formulas, formula);
        item(now.colorants, colorant);
        range(amount, 0, 9999);
        change();
        int old = f.amounts[colorant];
        f.amounts[colorant] = amount;
        f.carries[colorant] = 0;
        return old;
    }

    int amount(int formula, int colorant, boolean isCarry) {
        Formula f = item(now.formulas, formula);
        item(now.colorants, colorant);
        return (isCarry ? f.carries : f.amounts)[colorant];
    }

    int baseOf(int formula) {
        return item(now.formulas, formula).base;
    }

    int closest(int can) {
        Can c = item(now.cans, can);
        int found = -1;
        int least = Integer.MAX_VALUE;
        for (int f = 0; f < now.formulas.size(); f++) {
            int sum = 0;
            for (int i = 0; i < now.colorants.size(); i++) {
                sum += Math.abs(now.formulas.get(f).amounts[i] - 100 * c.steps[i]);
            }
            if (now.formulas.get(f).base == c.base && sum < least) {
                found = f;
                least = sum;
            }
        }
        return found;
    }

    private static void pump(Colorant colorant, int index, Can can, int steps) {
        for (int i = 0; i < steps; i++) {
            Lot first = colorant.lots.get(0);
            can.lots.get(index).add(first.number);
            can.steps[index]++;
            colorant.pumped++;
            first.steps--;
            if (first.steps == 0) {
                colorant.lots.remove(0);
            }
        }
    }

    /** Mixes on the state, or answers the reason against it, and 10 times the colorant with it. */
    private static int tryMix(State s, int formula) {
        Formula f = s.formulas.get(formula);
        Base b = s.bases.get(f.base);
        int[] steps = new int[s.colorants.size()];
        for (int i = 0; i < steps.length; i++) {
            steps[i] = (f.amounts[i] + f.carries[i]) / 100;
        }
        if (s.cans.size() == 20) {
            return 2;
        }
        if (b.stock == 0) {
            return 3;
        }
        if (Arrays.stream(steps).sum() > b.limit) {
            return 4;
        }
        for (int i = 0; i < steps.length; i++) {
            if (steps[i] > s.colorants.get(i).inside()) {
                return 5 + 10 * i;
            }
        }
        Can made = new Can();
        made.formula = formula;
        made.base = f.base;
        for (int i = 0; i < 8; i++) {
            made.lots.add(new TreeSet<>());
        }
        for (int i = 0; i < steps.length; i++) {
            f.carries[i] = f.amounts[i] + f.carries[i] - 100 * steps[i];
            pump(s.colorants.get(i), i, made, steps[i]);
        }
        b.stock--;
        b.cans++;
        s.cans.add(made);
        return 0;
    }

    int mix(int formula) {
        item(now.formulas, formula);
        int why = tryMix(now.copy(), formula);
        if (why != 0) {
            refuse(why % 10, why / 10);
        }
        change();
        tryMix(now, formula);
        return now.cans.size() - 1;
    }

    int possible(int formula) {
        item(now.formulas, formula);
        State copy = now.copy();
        int count = 0;
        while (tryMix(copy, formula) == 0) {
            count++;
        }
        return count;
    }

    int refusal() {
        if (reason == 0) {
            throw new NoSuchElementException();
        }
        return reason;
    }

    int lacking() {
        if (reason != 5) {
            throw new NoSuchElementException();
        }
        return lackingColorant;
    }

    int steps(int can, int colorant) {
        Can c = item(now.cans, can);
        item(now.colorants, colorant);
        return c.steps[colorant];
    }

    int can(int can, int what) {
        Can c = item(now.cans, can);
        range(what, 0, 5);
        int room = now.bases.get(c.base).limit - c.all();
        return new int[] {c.formula, c.base, c.all(), c.corrections, c.added, room}[what];
    }

    private int colourWith(Can can, int[] more, int axis) {
        int sum = now.bases.get(can.base).values[axis];
        for (int i = 0; i < now.colorants.size(); i++) {
            sum += now.colorants.get(i).values[axis] * (can.steps[i] + more[i]);
        }
        return sum;
    }

    int colour(int can, int axis) {
        Can c = item(now.cans, can);
        range(axis, 0, 2);
        return colourWith(c, new int[8], axis);
    }

    int correct(int can, int colorant, int steps) {
        Can c = item(now.cans, can);
        Colorant added = item(now.colorants, colorant);
        range(steps, 1, 50);
        if (c.all() + steps > now.bases.get(c.base).limit) {
            refuse(4, -1);
        }
        if (added.inside() < steps) {
            refuse(5, colorant);
        }
        change();
        pump(added, colorant, c, steps);
        c.corrections++;
        c.added += steps;
        return c.all();
    }

    /** Goes through all corrections of at most six steps in counting order, and keeps the least one. */
    int least(int can, int first, int second, int third, int tolerance, int colorant) {
        Can c = item(now.cans, can);
        if (colorant != -1) {
            item(now.colorants, colorant);
        }
        range(tolerance, 0, 99);
        long[] goal = {first, second, third};
        int[] best = tryAll(c, goal, tolerance, new int[8], 0, null);
        if (best == null) {
            throw new NoSuchElementException();
        }
        return colorant == -1 ? Arrays.stream(best).sum() : best[colorant];
    }

    private int[] tryAll(Can can, long[] goal, int tolerance, int[] more, int colorant, int[] best) {
        int added = Arrays.stream(more).sum();
        if (colorant == now.colorants.size()) {
            boolean isGood = can.all() + added <= now.bases.get(can.base).limit;
            for (int axis = 0; axis < 3; axis++) {
                isGood &= Math.abs(goal[axis] - colourWith(can, more, axis)) <= tolerance;
            }
            return isGood && isLess(more, best) ? more.clone() : best;
        }
        int most = Math.min(6 - added, now.colorants.get(colorant).inside());
        for (int steps = 0; steps <= most; steps++) {
            more[colorant] = steps;
            best = tryAll(can, goal, tolerance, more, colorant + 1, best);
        }
        more[colorant] = 0;
        return best;
    }

    private static boolean isLess(int[] one, int[] other) {
        if (other == null) {
            return true;
        }
        int sums = Integer.compare(Arrays.stream(one).sum(), Arrays.stream(other).sum());
        return sums != 0 ? sums < 0 : Arrays.compare(one, other) > 0;
    }

    boolean hasLot(int can, int colorant, int lot) {
        Can c = item(now.cans, can);
        item(now.colorants, colorant);
        range(lot, 0, 99);
        return c.lots.get(colorant).contains(lot);
    }

    int canWith(int colorant, int lot, int index) {
        item(now.colorants, colorant);
        range(lot, 0, 99);
        List<Integer> found = new ArrayList<>();
        for (int i = 0; i < now.cans.size(); i++) {
            if (now.cans.get(i).lots.get(colorant).contains(lot)) {
                found.add(i);
            }
        }
        if (index < 0 || index >= found.size()) {
            throw new NoSuchElementException();
        }
        return found.get(index);
    }

    int formulasWith(int colorant, int lot) {
        item(now.colorants, colorant);
        range(lot, 0, 99);
        int set = 0;
        for (Can can : now.cans) {
            if (can.lots.get(colorant).contains(lot)) {
                set |= 1 << can.formula;
            }
        }
        return set;
    }

    private String labelOf(int can) {
        Can c = item(now.cans, can);
        String label = "b" + c.base;
        for (int i = 0; i < 8; i++) {
            if (c.steps[i] > 0) {
                label += "," + i + "=" + c.steps[i];
                for (int lot : c.lots.get(i)) {
                    label += ":" + lot;
                }
            }
        }
        return c.corrections > 0 ? label + "+" + c.added : label;
    }

    int labelLength(int can) {
        return labelOf(can).length();
    }

    char label(int can, int index) {
        String label = labelOf(can);
        if (index < 0 || index >= label.length()) {
            throw new NoSuchElementException();
        }
        return label.charAt(index);
    }

    double meanSteps(int formula) {
        item(now.formulas, formula);
        double sum = 0;
        double count = 0;
        for (Can can : now.cans) {
            if (can.formula == formula) {
                sum += can.all();
                count++;
            }
        }
        if (count == 0) {
            throw new ArithmeticException();
        }
        return sum / count;
    }

    int account(int what) {
        range(what, 0, 12);
        int[] all = new int[13];
        all[0] = now.colorants.size();
        all[1] = now.bases.size();
        all[2] = now.formulas.size();
        all[3] = now.cans.size();
        for (Colorant c : now.colorants) {
            all[4] += c.inside();
            all[6] += c.refilled;
            all[7] += c.recalled;
            all[11] += c.wasted;
        }
        for (Can c : now.cans) {
            all[5] += c.all();
            all[9] += c.corrections;
        }
        for (Base b : now.bases) {
            all[8] += b.stock;
        }
        for (Formula f : now.formulas) {
            all[10] += Arrays.stream(f.carries).sum();
        }
        all[12] = now.today;
        return all[what];
    }

    int undo() {
        if (before.isEmpty()) {
            throw new IllegalStateException();
        }
        now = before.remove(before.size() - 1);
        return before.size();
    }

    void save() {
        saved = now.copy();
    }

    void restore() {
        if (saved == null) {
            throw new IllegalStateException();
        }
        now = saved.copy();
        before.clear();
    }
}

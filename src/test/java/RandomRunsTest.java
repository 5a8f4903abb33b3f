import java.util.Random;

/**
 * Runs of all the 512 calls of an object, drawn with fixed seeds; TintDesk and ReferenceDesk must answer alike. Every
 * second run begins with a stocked desk, so that cans, lots in them, and corrections are common.
 */
public final class RandomRunsTest {
    private static final int RUNS = 3000;
    private static final int[] ODD = {Integer.MIN_VALUE, Integer.MAX_VALUE, -1, -2, 100, 512, 1 << 30, -(1 << 31) + 1};
    private static final int ADD_COLORANT = 2;
    private static final int REFILL = 19;
    private static final Check CHECK = new Check();

    private final Random random;
    private final CountedDesk desk = new CountedDesk();
    private final ReferenceDesk reference = new ReferenceDesk();
    private final int oddOneIn;
    private final boolean isStocked;
    private String waiting = "";

    private RandomRunsTest(int seed) {
        random = new Random(seed);
        oddOneIn = seed % 3 == 0 ? 12 : 60;
        isStocked = seed % 2 == 1;
    }

    public static void main(String[] args) {
        for (int seed = 0; seed < RUNS; seed++) {
            RandomRunsTest run = new RandomRunsTest(seed);
            boolean isGood = !run.isStocked || run.stockUp("run " + seed + ", stocking up:");
            int left = isGood ? run.desk.callsLeft() : 0;
            while (left > 0) {
                left = run.callBoth("run " + seed + ", " + left + " calls left:") ? run.desk.callsLeft() : 0;
            }
        }
        CHECK.end();
    }

    private interface Answer {
        Object get();
    }

    /** The answer, or the very class of what is thrown. */
    private static String answerOf(Answer call) {
        try {
            return String.valueOf(call.get());
        } catch (RuntimeException thrown) {
            return thrown.getClass().getName();
        }
    }

    private boolean compare(String what, Answer got, Answer due) {
        String dueText = answerOf(due);
        String gotText = answerOf(got);
        CHECK.same(what, dueText, gotText);
        return dueText.equals(gotText);
    }

    /** A number below the bound, or just at it, or now and then an odd one. */
    private int below(int bound) {
        if (random.nextInt(oddOneIn) == 0) {
            return random.nextBoolean() ? bound : ODD[random.nextInt(ODD.length)];
        }
        return random.nextInt(bound);
    }

    private int colorant() {
        return below(Math.max(1, reference.account(0)));
    }

    private int base() {
        return below(Math.max(1, reference.account(1)));
    }

    private int formula() {
        return below(Math.max(1, reference.account(2)));
    }

    private int can() {
        return below(Math.max(1, reference.account(3)));
    }

    private int lotNumber() {
        return random.nextInt(4) == 0 ? below(100) : random.nextInt(5) * 24;
    }

    /** Mostly that of the first lot in the canister: cans are likely to have steps of it. */
    private int lotInUse(int colorant) {
        boolean isFilled = colorant >= 0 && colorant < reference.account(0) && reference.colorant(colorant, 4) > 0;
        return isFilled && random.nextInt(4) != 0 ? reference.lot(colorant, 0, 0) : lotNumber();
    }

    private boolean stockUp(String place) {
        int colorants = 2 + random.nextInt(7);
        boolean isGood = true;
        for (int i = 0; i < colorants && isGood; i++) {
            isGood = changeSetUp(place, ADD_COLORANT);
        }
        for (int i = 0; i < colorants * 4 && isGood; i++) {
            isGood = changeSetUp(place, REFILL);
        }
        for (int i = 0; i < 3 && isGood; i++) {
            int base = i;
            int limit = i == 0 ? 200 : 5 + random.nextInt(40);
            isGood = compare(place + " addBase", () -> desk.addBase(base, 1, 2, limit),
                () -> reference.addBase(base, 1, 2, limit))
                && compare(place + " setStock", () -> desk.setStock(base, 9), () -> reference.setStock(base, 9));
        }
        for (int i = 0; i < 4 && isGood; i++) {
            isGood = typeAndRead(place, newText());
        }
        return isGood;
    }

    private boolean typeAndRead(String place, String text) {
        boolean isGood = true;
        for (int i = 0; i < text.length() && isGood; i++) {
            isGood = append(place, text.charAt(i));
        }
        return isGood && read(place);
    }

    private boolean isThere(int can) {
        return can >= 0 && can < reference.account(3);
    }

    private int goal(int can, int axis) {
        int near = isThere(can) ? reference.colour(can, axis) : 50;
        return random.nextInt(30) == 0 ? ODD[random.nextInt(ODD.length)] : near + random.nextInt(24) - 4;
    }

    /** The colour of a can that is there, with up to seven steps more: most such goals can be reached, some just not. */
    private int[] goalWithMore(int can) {
        int[] goal = {reference.colour(can, 0), reference.colour(can, 1), reference.colour(can, 2)};
        int more = random.nextInt(8);
        for (int i = 0; i < more; i++) {
            int added = random.nextInt(reference.account(0));
            for (int axis = 0; axis < 3; axis++) {
                goal[axis] += reference.colorant(added, axis);
            }
        }
        goal[random.nextInt(3)] += random.nextInt(3) - 1;
        return goal;
    }

    /** One text in thirty is too long for the buffer. */
    private String newText() {
        StringBuilder text = new StringBuilder("b").append(base() & 15).append(':');
        int parts = random.nextInt(30) == 0 ? 16 : 1 + random.nextInt(4);
        for (int i = 0; i < parts; i++) {
            int amount = random.nextInt(3) == 0 ? random.nextInt(1200) : random.nextInt(5) * 50;
            text.append(i == 0 ? "" : ",").append(colorant() & 15).append('=').append(amount);
        }
        if (random.nextInt(6) == 0) {
            text.setCharAt(random.nextInt(text.length()), "b0:=,19x+".charAt(random.nextInt(9)));
        }
        return random.nextInt(8) == 0 ? text.substring(0, random.nextInt(text.length())) : text.toString();
    }

    private boolean callBoth(String place) {
        if (!waiting.isEmpty() && random.nextInt(20) != 0) {
            char c = waiting.charAt(0);
            waiting = waiting.substring(1);
            return append(place, c) && (!waiting.isEmpty() || desk.callsLeft() == 0 || read(place));
        }
        int kind = random.nextInt(100);
        if (kind < 40) {
            return changeSetUp(place, kind);
        }
        return kind < 60 ? changeCans(place, kind) : ask(place, random.nextInt(22));
    }

    private boolean append(String place, char c) {
        return compare(place + " append " + (int) c, () -> {
            desk.append(c);
            return "appended";
        }, () -> {
            reference.append(c);
            return "appended";
        });
    }

    private boolean read(String place) {
        return compare(place + " readFormula", desk::readFormula, reference::readFormula)
            && (desk.callsLeft() == 0
                || compare(place + " faultPosition", desk::faultPosition, reference::faultPosition));
    }

    private boolean changeSetUp(String place, int kind) {
        int a = below(10);
        int b = below(10);
        int c = below(10);
        int colorant = colorant();
        int lot = lotNumber();
        if (kind <= ADD_COLORANT) {
            return compare(place + " addColorant", () -> desk.addColorant(a, b, c), () -> reference.addColorant(a, b, c));
        }
        if (kind < 5) {
            int limit = random.nextBoolean() ? below(201) : below(20);
            return compare(place + " addBase", () -> desk.addBase(a * 10, b, c, limit), () -> reference.addBase(a * 10, b, c, limit));
        }
        if (kind < 7) {
            int life = below(100);
            return compare(place + " setLife", () -> desk.setLife(colorant, life), () -> reference.setLife(colorant, life));
        }
        if (kind <= REFILL) {
            int steps = random.nextInt(4) == 0 ? below(501) : 1 + random.nextInt(9);
            return compare(place + " refill", () -> desk.refill(colorant, lot, steps), () -> reference.refill(colorant, lot, steps));
        }
        if (kind < 22) {
            return compare(place + " recall", () -> desk.recall(colorant, lot), () -> reference.recall(colorant, lot));
        }
        if (kind < 24) {
            int days = random.nextInt(5) == 0 ? below(100) : 1 + random.nextInt(9);
            return compare(place + " pass", () -> desk.pass(days), () -> reference.pass(days));
        }
        if (kind < 30) {
            int base = base();
            int stock = below(100);
            return compare(place + " setStock", () -> desk.setStock(base, stock), () -> reference.setStock(base, stock));
        }
        if (kind < 34) {
            int formula = formula();
            int amount = random.nextInt(4) == 0 ? below(10000) : random.nextInt(300);
            return compare(place + " setAmount", () -> desk.setAmount(formula, colorant, amount),
                () -> reference.setAmount(formula, colorant, amount));
        }
        waiting = newText();
        return true;
    }

    private boolean changeCans(String place, int kind) {
        int formula = formula();
        int can = can();
        int colorant = colorant();
        int steps = random.nextInt(3) == 0 ? below(51) : 1 + random.nextInt(4);
        if (kind < 51) {
            return compare(place + " mix", () -> desk.mix(formula), () -> reference.mix(formula));
        }
        if (kind < 56) {
            return compare(place + " correct", () -> desk.correct(can, colorant, steps),
                () -> reference.correct(can, colorant, steps));
        }
        if (kind < 58) {
            return compare(place + " undo", desk::undo, reference::undo);
        }
        if (kind < 59) {
            desk.save();
            reference.save();
            return true;
        }
        if (random.nextInt(4) != 0) {
            return true;
        }
        return compare(place + " restore", () -> {
            desk.restore();
            return "restored";
        }, () -> {
            reference.restore();
            return "restored";
        });
    }

    private boolean ask(String place, int kind) {
        int a = colorant();
        int f = formula();
        int k = can();
        int lot = lotInUse(a);
        int what = below(14);
        boolean isCarry = random.nextBoolean();
        int index = isStocked ? random.nextInt(5) - 1 : what - 1;
        String name = place + " question " + kind;
        switch (kind) {
            case 0: return compare(name, () -> desk.colorant(a, what), () -> reference.colorant(a, what));
            case 1: return compare(name, () -> desk.lot(a, what - 1, k), () -> reference.lot(a, what - 1, k));
            case 2: return compare(name, () -> desk.lot(a, 0, what & 3), () -> reference.lot(a, 0, what & 3));
            case 3: return compare(name, () -> desk.base(f, what), () -> reference.base(f, what));
            case 4: return compare(name, desk::faultPosition, reference::faultPosition);
            case 5: return compare(name, () -> desk.amount(f, a, isCarry), () -> reference.amount(f, a, isCarry));
            case 6: return compare(name, () -> desk.baseOf(f), () -> reference.baseOf(f));
            case 7: return compare(name, () -> desk.closest(k), () -> reference.closest(k));
            case 8: return compare(name, () -> desk.possible(f), () -> reference.possible(f));
            case 9: return compare(name, desk::refusal, reference::refusal);
            case 10: return compare(name, desk::lacking, reference::lacking);
            case 11: return compare(name, () -> desk.steps(k, a), () -> reference.steps(k, a));
            case 12: return compare(name, () -> desk.can(k, what % 7), () -> reference.can(k, what % 7));
            case 13: return compare(name, () -> desk.colour(k, what % 4), () -> reference.colour(k, what % 4));
            case 14: return askLeast(name, k);
            case 15: return compare(name, () -> desk.hasLot(k, a, lot), () -> reference.hasLot(k, a, lot));
            case 16: return compare(name, () -> desk.canWith(a, lot, index), () -> reference.canWith(a, lot, index));
            case 17: return compare(name, () -> desk.formulasWith(a, lot), () -> reference.formulasWith(a, lot));
            case 18: return compare(name, () -> desk.labelLength(k), () -> reference.labelLength(k));
            case 19: return askLabel(name, k);
            case 20: return compare(name, () -> desk.meanSteps(f), () -> reference.meanSteps(f));
            default: return compare(name, () -> desk.account(what - 1), () -> reference.account(what - 1));
        }
    }

    private boolean askLeast(String name, int can) {
        boolean isNear = isStocked && isThere(can) && random.nextInt(4) != 0;
        int[] goal = isNear ? goalWithMore(can) : new int[] {goal(can, 0), goal(can, 1), goal(can, 2)};
        int tolerance = random.nextInt(4) == 0 ? below(100) : random.nextInt(6);
        int colorant = random.nextInt(4) == 0 ? -1 : colorant();
        return compare(name, () -> desk.least(can, goal[0], goal[1], goal[2], tolerance, colorant),
            () -> reference.least(can, goal[0], goal[1], goal[2], tolerance, colorant));
    }

    private boolean askLabel(String name, int can) {
        int length = isThere(can) ? reference.labelLength(can) : 1;
        boolean isGood = true;
        for (int i = Math.max(-1, length - 20); i <= length && desk.callsLeft() > 0; i++) {
            int index = i;
            isGood &= compare(name, () -> desk.label(can, index), () -> reference.label(can, index));
        }
        return isGood;
    }
}

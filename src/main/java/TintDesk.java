import java.util.NoSuchElementException;

/** A desk that tints paint. What each call promises stands in the document; comments here say why, not what. */
public final class TintDesk {
    private static final int AXES = 3;
    private static final int MOST_COLORANTS = 8;
    private static final int MOST_COLORANT_VALUE = 9;
    private static final int MOST_BASES = 6;
    private static final int MOST_BASE_VALUE = 99;
    private static final int MOST_LIMIT = 200;
    private static final int MOST_STOCK = 99;
    private static final int MOST_FORMULAS = 10;
    private static final int MOST_AMOUNT = 9999;
    private static final int HUNDREDTHS = 100;
    private static final int MOST_CANS = 20;
    private static final int MOST_LOTS = 12;
    private static final int MOST_LOT_NUMBER = 99;
    private static final int MOST_REFILL = 500;
    private static final int MOST_LIFE = 99;
    private static final int FIRST_LIFE = 60;
    private static final int MOST_DAYS = 99;
    private static final int LAST_DAY = 400;
    private static final int MOST_CORRECTION = 50;
    private static final int MOST_TOLERANCE = 99;
    private static final int MOST_LEAST_STEPS = 6;
    private static final int ALL_COLORANTS = -1;
    private static final int MOST_CHANGES = 8;
    private static final int MOST_SIGNS = 60;
    private static final int MOST_AMOUNT_DIGITS = 4;
    private static final int TEN = 10;
    private static final int NO_FAULT = -1;
    private static final int NOT_NAMED = -1;
    private static final int NO_COLORANT = -1;
    private static final int LONG_BITS = 64;
    private static final int LONGS_OF_LOTS = 2;

    // "b" and a digit, ",c=nnn" for each colorant, ":nn" for each of at most 200 steps, "+nnn".
    private static final int MOST_LABEL = 2 + MOST_COLORANTS * 6 + MOST_LIMIT * 3 + 4;

    private static final int NO_REASON = 0;
    private static final int NOT_THERE = 1;
    private static final int TOO_MANY = 2;
    private static final int NO_STOCK = 3;
    private static final int OVER_LIMIT = 4;
    private static final int LACKS_STEPS = 5;

    private final Desk desk = new Desk();
    private final Desk snapshot = new Desk();
    private boolean isSaved = false;
    private final History history = new History();
    private final FormulaText text = new FormulaText();
    private int latestFault = NO_FAULT;
    private int latestReason = NO_REASON;
    private int latestLacking = NO_COLORANT;
    private final LeastCorrection search = new LeastCorrection();
    private final LabelWriter writer = new LabelWriter();

    public TintDesk() {
    }

    // Colorants and bases.

    public int addColorant(int first, int second, int third) throws IllegalArgumentException, IllegalStateException {
        requireRange(first, 0, MOST_COLORANT_VALUE);
        requireRange(second, 0, MOST_COLORANT_VALUE);
        requireRange(third, 0, MOST_COLORANT_VALUE);
        if (desk.colorantCount >= MOST_COLORANTS) {
            throw new IllegalStateException("8 colorants were made");
        }
        history.keep(desk);
        return desk.makeColorant(first, second, third);
    }

    public int setLife(int colorant, int life) throws IndexOutOfBoundsException, IllegalArgumentException {
        requireColorant(colorant);
        requireRange(life, 1, MOST_LIFE);
        history.keep(desk);
        Colorant changed = desk.colorants[colorant];
        int before = changed.life;
        changed.life = life;
        return before;
    }

    public int refill(int colorant, int lot, int steps) throws IndexOutOfBoundsException, IllegalArgumentException, UnsupportedOperationException {
        requireColorant(colorant);
        requireRange(lot, 0, MOST_LOT_NUMBER);
        requireRange(steps, 1, MOST_REFILL);
        Colorant filled = desk.colorants[colorant];
        stopIfRefused(filled.lotCount >= MOST_LOTS ? TOO_MANY : NO_REASON, NO_COLORANT);
        history.keep(desk);
        filled.putLot(lot, steps, desk.today);
        return filled.stepsInside();
    }

    public int recall(int colorant, int lot) throws IndexOutOfBoundsException, IllegalArgumentException {
        requireColorant(colorant);
        requireRange(lot, 0, MOST_LOT_NUMBER);
        history.keep(desk);
        return desk.colorants[colorant].takeBackLots(lot);
    }

    public int colorant(int colorant, int what) throws IndexOutOfBoundsException, IllegalArgumentException {
        requireColorant(colorant);
        requireRange(what, 0, 9);
        return desk.colorants[colorant].numberFor(what);
    }

    public int lot(int colorant, int index, int what) throws IndexOutOfBoundsException, NoSuchElementException, IllegalArgumentException {
        requireColorant(colorant);
        Colorant asked = desk.colorants[colorant];
        if (index < 0 || index >= asked.lotCount) {
            throw new NoSuchElementException("there is no such lot");
        }
        requireRange(what, 0, 2);
        return asked.lotNumberFor(index, what);
    }

    public int pass(int days) throws IllegalArgumentException {
        requireRange(days, 1, MOST_DAYS);
        requireRange(desk.today + days, 0, LAST_DAY);
        history.keep(desk);
        return desk.goToDay(desk.today + days);
    }

    public int addBase(int first, int second, int third, int limit) throws IllegalArgumentException, IllegalStateException {
        requireRange(first, 0, MOST_BASE_VALUE);
        requireRange(second, 0, MOST_BASE_VALUE);
        requireRange(third, 0, MOST_BASE_VALUE);
        requireRange(limit, 0, MOST_LIMIT);
        if (desk.baseCount >= MOST_BASES) {
            throw new IllegalStateException("6 bases were made");
        }
        history.keep(desk);
        return desk.makeBase(first, second, third, limit);
    }

    public int setStock(int base, int stock) throws IndexOutOfBoundsException, IllegalArgumentException {
        requireBase(base);
        requireRange(stock, 0, MOST_STOCK);
        history.keep(desk);
        Base changed = desk.bases[base];
        int before = changed.stock;
        changed.stock = stock;
        return before;
    }

    public int base(int base, int what) throws IndexOutOfBoundsException, IllegalArgumentException {
        requireBase(base);
        requireRange(what, 0, 5);
        return desk.baseNumberFor(base, what);
    }

    // Formulas.

    public void append(char c) throws IllegalStateException {
        if (text.length >= MOST_SIGNS) {
            throw new IllegalStateException("the buffer contains 60 characters");
        }
        text.put(c);
    }

    public int readFormula() throws IllegalArgumentException, UnsupportedOperationException {
        latestFault = text.readAll();
        text.empty();
        if (latestFault != NO_FAULT) {
            throw new IllegalArgumentException("the text has a fault");
        }
        stopIfRefused(desk.whyNoFormula(text), NO_COLORANT);
        history.keep(desk);
        return desk.makeFormula(text);
    }

    public int faultPosition() {
        return latestFault;
    }

    public int setAmount(int formula, int colorant, int amount) throws IndexOutOfBoundsException, IllegalArgumentException {
        requireFormula(formula);
        requireColorant(colorant);
        requireRange(amount, 0, MOST_AMOUNT);
        history.keep(desk);
        Formula changed = desk.formulas[formula];
        int before = changed.amounts[colorant];
        changed.amounts[colorant] = amount;
        changed.carries[colorant] = 0;
        return before;
    }

    public int amount(int formula, int colorant, boolean isCarry) throws IndexOutOfBoundsException {
        requireFormula(formula);
        requireColorant(colorant);
        Formula asked = desk.formulas[formula];
        return isCarry ? asked.carries[colorant] : asked.amounts[colorant];
    }

    public int baseOf(int formula) throws IndexOutOfBoundsException {
        requireFormula(formula);
        return desk.formulas[formula].base;
    }

    public int closest(int can) throws IndexOutOfBoundsException {
        requireCan(can);
        return desk.closestFormula(desk.cans[can]);
    }

    // Cans.

    public int mix(int formula) throws IndexOutOfBoundsException, UnsupportedOperationException {
        requireFormula(formula);
        Formula mixed = desk.formulas[formula];
        stopIfRefused(desk.whyNoMix(mixed), desk.firstLacking(mixed, 1));
        history.keep(desk);
        return desk.makeCan(formula);
    }

    public int possible(int formula) throws IndexOutOfBoundsException {
        requireFormula(formula);
        return desk.cansPossible(desk.formulas[formula]);
    }

    public int refusal() throws NoSuchElementException {
        if (latestReason == NO_REASON) {
            throw new NoSuchElementException("nothing was refused");
        }
        return latestReason;
    }

    public int lacking() throws NoSuchElementException {
        if (latestReason != LACKS_STEPS) {
            throw new NoSuchElementException("the latest refusal was not for reason 5");
        }
        return latestLacking;
    }

    public int steps(int can, int colorant) throws IndexOutOfBoundsException {
        requireCan(can);
        requireColorant(colorant);
        return desk.cans[can].steps[colorant];
    }

    public int can(int can, int what) throws IndexOutOfBoundsException, IllegalArgumentException {
        requireCan(can);
        requireRange(what, 0, 5);
        return desk.canNumberFor(desk.cans[can], what);
    }

    public int colour(int can, int axis) throws IndexOutOfBoundsException, IllegalArgumentException {
        requireCan(can);
        requireRange(axis, 0, AXES - 1);
        return desk.colourOf(desk.cans[can], axis);
    }

    public int correct(int can, int colorant, int steps) throws IndexOutOfBoundsException, IllegalArgumentException, UnsupportedOperationException {
        requireCan(can);
        requireColorant(colorant);
        requireRange(steps, 1, MOST_CORRECTION);
        Can corrected = desk.cans[can];
        stopIfRefused(desk.whyNoCorrection(corrected, colorant, steps), colorant);
        history.keep(desk);
        desk.colorants[colorant].pumpInto(corrected, colorant, steps);
        corrected.corrections++;
        corrected.correctedSteps += steps;
        return corrected.allSteps();
    }

    public int least(int can, int first, int second, int third, int tolerance, int colorant) throws IndexOutOfBoundsException, IllegalArgumentException, NoSuchElementException {
        requireCan(can);
        if (colorant != ALL_COLORANTS) {
            requireColorant(colorant);
        }
        requireRange(tolerance, 0, MOST_TOLERANCE);
        Can asked = desk.cans[can];
        search.gaps[0] = (long) first - desk.colourOf(asked, 0);
        search.gaps[1] = (long) second - desk.colourOf(asked, 1);
        search.gaps[2] = (long) third - desk.colourOf(asked, 2);
        search.tolerance = tolerance;
        if (!search.succeeds(desk, desk.roomIn(asked))) {
            throw new NoSuchElementException("no correction of at most 6 steps reaches it");
        }
        return colorant == ALL_COLORANTS ? search.total : search.chosen[colorant];
    }

    public boolean hasLot(int can, int colorant, int lot) throws IndexOutOfBoundsException, IllegalArgumentException {
        requireCan(can);
        requireColorant(colorant);
        requireRange(lot, 0, MOST_LOT_NUMBER);
        return desk.cans[can].holdsLot(colorant, lot);
    }

    public int canWith(int colorant, int lot, int index) throws IndexOutOfBoundsException, IllegalArgumentException, NoSuchElementException {
        requireColorant(colorant);
        requireRange(lot, 0, MOST_LOT_NUMBER);
        int found = desk.canHolding(colorant, lot, index);
        if (found < 0) {
            throw new NoSuchElementException("there is no such index");
        }
        return found;
    }

    public int formulasWith(int colorant, int lot) throws IndexOutOfBoundsException, IllegalArgumentException {
        requireColorant(colorant);
        requireRange(lot, 0, MOST_LOT_NUMBER);
        return desk.formulasHolding(colorant, lot);
    }

    public int labelLength(int can) throws IndexOutOfBoundsException {
        requireCan(can);
        writer.write(desk.cans[can]);
        return writer.length;
    }

    public char label(int can, int index) throws IndexOutOfBoundsException, NoSuchElementException {
        requireCan(can);
        writer.write(desk.cans[can]);
        if (index < 0 || index >= writer.length) {
            throw new NoSuchElementException("there is no such index");
        }
        return writer.signs[index];
    }

    public double meanSteps(int formula) throws IndexOutOfBoundsException, ArithmeticException {
        requireFormula(formula);
        int count = desk.countCansOfFormula(formula);
        if (count == 0) {
            throw new ArithmeticException("no can of it was mixed");
        }
        return (double) desk.stepsInCansOfFormula(formula) / (double) count;
    }

    // Accounts, undo and snapshot.

    public int account(int what) throws IllegalArgumentException {
        requireRange(what, 0, 12);
        return desk.accountFor(what);
    }

    public int undo() throws IllegalStateException {
        if (history.count == 0) {
            throw new IllegalStateException("no change is kept");
        }
        history.giveBack(desk);
        return history.count;
    }

    public void save() {
        snapshot.copyFrom(desk);
        isSaved = true;
    }

    public void restore() throws IllegalStateException {
        if (!isSaved) {
            throw new IllegalStateException("there is no snapshot");
        }
        desk.copyFrom(snapshot);
        history.forget();
    }

    private static void requireRange(int number, int low, int high) {
        if (number < low || number > high) {
            throw new IllegalArgumentException("a number is out of range");
        }
    }

    private void requireColorant(int colorant) {
        if (colorant < 0 || colorant >= desk.colorantCount) {
            throw new IndexOutOfBoundsException("there is no such colorant");
        }
    }

    private void requireBase(int base) {
        if (base < 0 || base >= desk.baseCount) {
            throw new IndexOutOfBoundsException("there is no such base");
        }
    }

    private void requireFormula(int formula) {
        if (formula < 0 || formula >= desk.formulaCount) {
            throw new IndexOutOfBoundsException("there is no such formula");
        }
    }

    private void requireCan(int can) {
        if (can < 0 || can >= desk.canCount) {
            throw new IndexOutOfBoundsException("there is no such can");
        }
    }

    private void stopIfRefused(int reason, int lackingColorant) {
        if (reason != NO_REASON) {
            latestReason = reason;
            latestLacking = lackingColorant;
            throw new UnsupportedOperationException("refused");
        }
    }

    /** A colorant with its canister; its lots stand in rows, the first one at index 0. */
    private static final class Colorant {
        final int[] values = new int[AXES];
        int life = 0;
        int refilled = 0;
        int pumped = 0;
        int recalled = 0;
        int wasted = 0;
        int lotCount = 0;
        final int[] lotNumbers = new int[MOST_LOTS];
        final int[] lotSteps = new int[MOST_LOTS];
        final int[] lotLastDays = new int[MOST_LOTS];

        void copyFrom(Colorant other) {
            System.arraycopy(other.values, 0, values, 0, AXES);
            life = other.life;
            refilled = other.refilled;
            pumped = other.pumped;
            recalled = other.recalled;
            wasted = other.wasted;
            lotCount = other.lotCount;
            System.arraycopy(other.lotNumbers, 0, lotNumbers, 0, MOST_LOTS);
            System.arraycopy(other.lotSteps, 0, lotSteps, 0, MOST_LOTS);
            System.arraycopy(other.lotLastDays, 0, lotLastDays, 0, MOST_LOTS);
        }

        int stepsInside() {
            int sum = 0;
            for (int i = 0; i < lotCount; i++) {
                sum += lotSteps[i];
            }
            return sum;
        }

        void putLot(int number, int steps, int today) {
            if (lotCount >= MOST_LOTS) {
                return;
            }
            lotNumbers[lotCount] = number;
            lotSteps[lotCount] = steps;
            lotLastDays[lotCount] = today + life;
            lotCount++;
            refilled += steps;
        }

        int takeBackLots(int number) {
            int gone = 0;
            for (int i = lotCount - 1; i >= 0; i--) {
                if (lotNumbers[i] == number) {
                    gone += lotSteps[i];
                    dropLot(i);
                }
            }
            recalled += gone;
            return gone;
        }

        int wasteOldLots(int today) {
            int gone = 0;
            for (int i = lotCount - 1; i >= 0; i--) {
                if (lotLastDays[i] < today) {
                    gone += lotSteps[i];
                    dropLot(i);
                }
            }
            wasted += gone;
            return gone;
        }

        void pumpInto(Can can, int colorant, int steps) {
            int left = steps;
            for (int lots = lotCount; lots > 0 && left > 0; lots--) {
                int taken = Math.min(left, lotSteps[0]);
                can.noteLot(colorant, lotNumbers[0]);
                lotSteps[0] -= taken;
                left -= taken;
                if (lotSteps[0] == 0) {
                    dropLot(0);
                }
            }
            can.steps[colorant] += steps;
            pumped += steps;
        }

        private void dropLot(int index) {
            for (int i = index; i < lotCount - 1; i++) {
                lotNumbers[i] = lotNumbers[i + 1];
                lotSteps[i] = lotSteps[i + 1];
                lotLastDays[i] = lotLastDays[i + 1];
            }
            lotCount--;
        }

        int numberFor(int what) {
            switch (what) {
                case 0: return values[0];
                case 1: return values[1];
                case 2: return values[2];
                case 3: return stepsInside();
                case 4: return lotCount;
                case 5: return refilled;
                case 6: return pumped;
                case 7: return recalled;
                case 8: return wasted;
                default: return life;
            }
        }

        int lotNumberFor(int index, int what) {
            switch (what) {
                case 0: return lotNumbers[index];
                case 1: return lotSteps[index];
                default: return lotLastDays[index];
            }
        }
    }

    private static final class Base {
        final int[] values = new int[AXES];
        int limit = 0;
        int stock = 0;

        void copyFrom(Base other) {
            System.arraycopy(other.values, 0, values, 0, AXES);
            limit = other.limit;
            stock = other.stock;
        }
    }

    private static final class Formula {
        int base = 0;
        final int[] amounts = new int[MOST_COLORANTS];
        final int[] carries = new int[MOST_COLORANTS];

        void copyFrom(Formula other) {
            base = other.base;
            System.arraycopy(other.amounts, 0, amounts, 0, MOST_COLORANTS);
            System.arraycopy(other.carries, 0, carries, 0, MOST_COLORANTS);
        }

        /** Remainders are carried on, so that several cans together get what one division of their sum gives. */
        int stepsForCans(int colorant, int count) {
            return (amounts[colorant] * count + carries[colorant]) / HUNDREDTHS;
        }

        void carryOn(int colorant) {
            carries[colorant] = (amounts[colorant] + carries[colorant]) % HUNDREDTHS;
        }

        int differenceFrom(Can can) {
            int sum = 0;
            for (int i = 0; i < MOST_COLORANTS; i++) {
                sum += Math.abs(amounts[i] - can.steps[i] * HUNDREDTHS);
            }
            return sum;
        }
    }

    /** A can; the lot numbers in it are bits, so that a copy of the desk stays small. */
    private static final class Can {
        int formula = 0;
        int base = 0;
        int corrections = 0;
        int correctedSteps = 0;
        final int[] steps = new int[MOST_COLORANTS];
        final long[] lotBits = new long[MOST_COLORANTS * LONGS_OF_LOTS];

        void copyFrom(Can other) {
            formula = other.formula;
            base = other.base;
            corrections = other.corrections;
            correctedSteps = other.correctedSteps;
            System.arraycopy(other.steps, 0, steps, 0, MOST_COLORANTS);
            System.arraycopy(other.lotBits, 0, lotBits, 0, MOST_COLORANTS * LONGS_OF_LOTS);
        }

        void noteLot(int colorant, int number) {
            lotBits[colorant * LONGS_OF_LOTS + number / LONG_BITS] |= 1L << (number % LONG_BITS);
        }

        boolean holdsLot(int colorant, int number) {
            long bits = lotBits[colorant * LONGS_OF_LOTS + number / LONG_BITS];
            return (bits >>> (number % LONG_BITS) & 1L) == 1L;
        }

        int allSteps() {
            int sum = 0;
            for (int i = 0; i < MOST_COLORANTS; i++) {
                sum += steps[i];
            }
            return sum;
        }
    }

    /**
     * All that undo and restore bring back. What stands behind the counts is always blank, as it was made:
     * so a thing made anew needs no clearing, and a colorant made later has the amount 0 everywhere.
     */
    private static final class Desk {
        final Colorant[] colorants = new Colorant[MOST_COLORANTS];
        final Base[] bases = new Base[MOST_BASES];
        final Formula[] formulas = new Formula[MOST_FORMULAS];
        final Can[] cans = new Can[MOST_CANS];
        int colorantCount = 0;
        int baseCount = 0;
        int formulaCount = 0;
        int canCount = 0;
        int today = 0;

        Desk() {
            for (int i = 0; i < MOST_COLORANTS; i++) {
                colorants[i] = new Colorant();
            }
            for (int i = 0; i < MOST_BASES; i++) {
                bases[i] = new Base();
            }
            for (int i = 0; i < MOST_FORMULAS; i++) {
                formulas[i] = new Formula();
            }
            for (int i = 0; i < MOST_CANS; i++) {
                cans[i] = new Can();
            }
        }

        void copyFrom(Desk other) {
            for (int i = 0; i < MOST_COLORANTS; i++) {
                colorants[i].copyFrom(other.colorants[i]);
            }
            for (int i = 0; i < MOST_BASES; i++) {
                bases[i].copyFrom(other.bases[i]);
            }
            for (int i = 0; i < MOST_FORMULAS; i++) {
                formulas[i].copyFrom(other.formulas[i]);
            }
            for (int i = 0; i < MOST_CANS; i++) {
                cans[i].copyFrom(other.cans[i]);
            }
            colorantCount = other.colorantCount;
            baseCount = other.baseCount;
            formulaCount = other.formulaCount;
            canCount = other.canCount;
            today = other.today;
        }

        int makeColorant(int first, int second, int third) {
            Colorant made = colorants[colorantCount];
            made.values[0] = first;
            made.values[1] = second;
            made.values[2] = third;
            made.life = FIRST_LIFE;
            colorantCount++;
            return colorantCount - 1;
        }

        int makeBase(int first, int second, int third, int limit) {
            Base made = bases[baseCount];
            made.values[0] = first;
            made.values[1] = second;
            made.values[2] = third;
            made.limit = limit;
            baseCount++;
            return baseCount - 1;
        }

        int makeFormula(FormulaText text) {
            Formula made = formulas[formulaCount];
            made.base = text.base;
            for (int i = 0; i < colorantCount; i++) {
                made.amounts[i] = Math.max(text.amounts[i], 0);
            }
            formulaCount++;
            return formulaCount - 1;
        }

        int makeCan(int formula) {
            Formula mixed = formulas[formula];
            Can made = cans[canCount];
            made.formula = formula;
            made.base = mixed.base;
            for (int i = 0; i < colorantCount; i++) {
                colorants[i].pumpInto(made, i, mixed.stepsForCans(i, 1));
                mixed.carryOn(i);
            }
            bases[mixed.base].stock--;
            canCount++;
            return canCount - 1;
        }

        int whyNoFormula(FormulaText text) {
            if (text.base >= baseCount || text.namesFrom(colorantCount)) {
                return NOT_THERE;
            }
            return formulaCount >= MOST_FORMULAS ? TOO_MANY : NO_REASON;
        }

        int whyNoMix(Formula formula) {
            if (canCount >= MOST_CANS) {
                return TOO_MANY;
            }
            if (bases[formula.base].stock == 0) {
                return NO_STOCK;
            }
            if (!staysInLimit(formula, 1)) {
                return OVER_LIMIT;
            }
            return firstLacking(formula, 1) == NO_COLORANT ? NO_REASON : LACKS_STEPS;
        }

        int whyNoCorrection(Can can, int colorant, int steps) {
            if (steps > roomIn(can)) {
                return OVER_LIMIT;
            }
            return steps > colorants[colorant].stepsInside() ? LACKS_STEPS : NO_REASON;
        }

        /** Whether the last one of so many cans, mixed one after the other, keeps the limit. */
        private boolean staysInLimit(Formula formula, int count) {
            int sum = 0;
            for (int i = 0; i < colorantCount; i++) {
                sum += formula.stepsForCans(i, count) - formula.stepsForCans(i, count - 1);
            }
            return sum <= bases[formula.base].limit;
        }

        int firstLacking(Formula formula, int count) {
            for (int i = 0; i < colorantCount; i++) {
                if (formula.stepsForCans(i, count) > colorants[i].stepsInside()) {
                    return i;
                }
            }
            return NO_COLORANT;
        }

        int cansPossible(Formula formula) {
            int most = Math.min(bases[formula.base].stock, MOST_CANS - canCount);
            for (int count = 1; count <= most; count++) {
                if (!staysInLimit(formula, count) || firstLacking(formula, count) != NO_COLORANT) {
                    return count - 1;
                }
            }
            return most;
        }

        int closestFormula(Can can) {
            int found = can.formula;
            int least = formulas[found].differenceFrom(can);
            // Downwards, so that of several formulas the lowest one is found last.
            for (int i = formulaCount - 1; i >= 0; i--) {
                int difference = formulas[i].differenceFrom(can);
                if (formulas[i].base == can.base && difference <= least) {
                    found = i;
                    least = difference;
                }
            }
            return found;
        }

        int roomIn(Can can) {
            return bases[can.base].limit - can.allSteps();
        }

        int colourOf(Can can, int axis) {
            int sum = bases[can.base].values[axis];
            for (int i = 0; i < colorantCount; i++) {
                sum += colorants[i].values[axis] * can.steps[i];
            }
            return sum;
        }

        int canHolding(int colorant, int lot, int index) {
            int before = 0;
            for (int i = 0; i < canCount; i++) {
                if (cans[i].holdsLot(colorant, lot)) {
                    if (before == index) {
                        return i;
                    }
                    before++;
                }
            }
            return -1;
        }

        int formulasHolding(int colorant, int lot) {
            int set = 0;
            for (int i = 0; i < canCount; i++) {
                if (cans[i].holdsLot(colorant, lot)) {
                    set |= 1 << cans[i].formula;
                }
            }
            return set;
        }

        int countCansOfFormula(int formula) {
            int count = 0;
            for (int i = 0; i < canCount; i++) {
                if (cans[i].formula == formula) {
                    count++;
                }
            }
            return count;
        }

        int stepsInCansOfFormula(int formula) {
            int sum = 0;
            for (int i = 0; i < canCount; i++) {
                if (cans[i].formula == formula) {
                    sum += cans[i].allSteps();
                }
            }
            return sum;
        }

        private int countCansOfBase(int base) {
            int count = 0;
            for (int i = 0; i < canCount; i++) {
                if (cans[i].base == base) {
                    count++;
                }
            }
            return count;
        }

        int goToDay(int day) {
            today = day;
            int gone = 0;
            for (int i = 0; i < colorantCount; i++) {
                gone += colorants[i].wasteOldLots(today);
            }
            return gone;
        }

        int baseNumberFor(int base, int what) {
            Base asked = bases[base];
            switch (what) {
                case 0: return asked.values[0];
                case 1: return asked.values[1];
                case 2: return asked.values[2];
                case 3: return asked.limit;
                case 4: return asked.stock;
                default: return countCansOfBase(base);
            }
        }

        int canNumberFor(Can can, int what) {
            switch (what) {
                case 0: return can.formula;
                case 1: return can.base;
                case 2: return can.allSteps();
                case 3: return can.corrections;
                case 4: return can.correctedSteps;
                default: return roomIn(can);
            }
        }

        int accountFor(int what) {
            switch (what) {
                case 0: return colorantCount;
                case 1: return baseCount;
                case 2: return formulaCount;
                case 3: return canCount;
                case 4: return sumOfColorants(3);
                case 5: return sumOfCans(2);
                case 6: return sumOfColorants(5);
                case 7: return sumOfColorants(7);
                case 8: return sumOfStocks();
                case 9: return sumOfCans(3);
                case 10: return sumOfCarries();
                case 11: return sumOfColorants(8);
                default: return today;
            }
        }

        private int sumOfColorants(int what) {
            int sum = 0;
            for (int i = 0; i < colorantCount; i++) {
                sum += colorants[i].numberFor(what);
            }
            return sum;
        }

        private int sumOfCans(int what) {
            int sum = 0;
            for (int i = 0; i < canCount; i++) {
                sum += canNumberFor(cans[i], what);
            }
            return sum;
        }

        private int sumOfStocks() {
            int sum = 0;
            for (int i = 0; i < baseCount; i++) {
                sum += bases[i].stock;
            }
            return sum;
        }

        private int sumOfCarries() {
            int sum = 0;
            for (int i = 0; i < formulaCount; i++) {
                for (int k = 0; k < colorantCount; k++) {
                    sum += formulas[i].carries[k];
                }
            }
            return sum;
        }
    }

    /** The desks before the latest changes, in a ring, so that keeping one more makes no object. */
    private static final class History {
        final Desk[] ring = new Desk[MOST_CHANGES];
        int count = 0;
        int next = 0;

        History() {
            for (int i = 0; i < MOST_CHANGES; i++) {
                ring[i] = new Desk();
            }
        }

        void keep(Desk desk) {
            ring[next].copyFrom(desk);
            next = (next + 1) % MOST_CHANGES;
            count = Math.min(count + 1, MOST_CHANGES);
        }

        void giveBack(Desk desk) {
            next = (next + MOST_CHANGES - 1) % MOST_CHANGES;
            count--;
            desk.copyFrom(ring[next]);
        }

        void forget() {
            count = 0;
        }
    }

    /** The text buffer, and what was read from it. */
    private static final class FormulaText {
        final char[] signs = new char[MOST_SIGNS];
        int length = 0;
        int position = 0;
        int base = 0;
        final int[] amounts = new int[TEN];

        void put(char sign) {
            if (length < MOST_SIGNS) {
                signs[length] = sign;
                length++;
            }
        }

        void empty() {
            length = 0;
        }

        boolean namesFrom(int colorant) {
            for (int i = colorant; i < TEN; i++) {
                if (amounts[i] != NOT_NAMED) {
                    return true;
                }
            }
            return false;
        }

        /** Returns the fault position: each step below stops at the first character that it cannot take. */
        int readAll() {
            position = 0;
            for (int i = 0; i < TEN; i++) {
                amounts[i] = NOT_NAMED;
            }
            return takeBase() && takeParts() ? NO_FAULT : position;
        }

        private boolean takeBase() {
            if (!takeSign('b') || !isAtDigit()) {
                return false;
            }
            base = takeDigit();
            return takeSign(':');
        }

        private boolean takeParts() {
            boolean isGood = takePart();
            for (int parts = 1; parts < MOST_SIGNS && isGood && position < length; parts++) {
                isGood = takeSign(',') && takePart();
            }
            return isGood;
        }

        private boolean takePart() {
            if (!isAtDigit()) {
                return false;
            }
            int colorant = takeDigit();
            if (!takeSign('=') || !isAtDigit()) {
                return false;
            }
            amounts[colorant] = takeAmount();
            return true;
        }

        private int takeAmount() {
            int amount = takeDigit();
            // Behind a 0 in front no digit can follow.
            int most = amount == 0 ? 1 : MOST_AMOUNT_DIGITS;
            for (int digits = 1; digits < most && isAtDigit(); digits++) {
                amount = amount * TEN + takeDigit();
            }
            return amount;
        }

        private boolean takeSign(char sign) {
            if (position >= length || signs[position] != sign) {
                return false;
            }
            position++;
            return true;
        }

        private boolean isAtDigit() {
            return position < length && signs[position] >= '0' && signs[position] <= '9';
        }

        private int takeDigit() {
            int digit = signs[position] - '0';
            position++;
            return digit;
        }
    }

    /** Looks for the least correction, in rows that every search uses again. */
    private static final class LeastCorrection {
        final long[] gaps = new long[AXES];
        int tolerance = 0;
        int total = 0;
        final int[] chosen = new int[MOST_COLORANTS];

        boolean succeeds(Desk desk, int room) {
            for (int i = 0; i < MOST_COLORANTS; i++) {
                chosen[i] = 0;
            }
            int most = Math.min(room, MOST_LEAST_STEPS);
            for (int steps = 0; steps <= most; steps++) {
                if (reaches(this, desk, 0, steps)) {
                    total = steps;
                    return true;
                }
            }
            return false;
        }

        /** Shares what is left among this colorant and those behind it, the most steps of the first ones first. */
        private static boolean reaches(LeastCorrection search, Desk desk, int colorant, int left) {
            if (!search.isInReach(left)) {
                return false;
            }
            if (left == 0) {
                return true;
            }
            if (colorant >= desk.colorantCount) {
                return false;
            }
            Colorant added = desk.colorants[colorant];
            for (int taken = Math.min(left, added.stepsInside()); taken >= 0; taken--) {
                search.choose(added, colorant, taken);
                if (reaches(search, desk, colorant + 1, left - taken)) {
                    return true;
                }
            }
            // The last choice was 0: the gaps are again what they were.
            return false;
        }

        private void choose(Colorant added, int colorant, int taken) {
            int more = taken - chosen[colorant];
            for (int axis = 0; axis < AXES; axis++) {
                gaps[axis] -= (long) added.values[axis] * more;
            }
            chosen[colorant] = taken;
        }

        /** With nothing left this is the question itself; before, it spares searches that cannot end well. */
        private boolean isInReach(int left) {
            for (int axis = 0; axis < AXES; axis++) {
                if (gaps[axis] < -tolerance || gaps[axis] > tolerance + left * MOST_COLORANT_VALUE) {
                    return false;
                }
            }
            return true;
        }
    }

    /** Writes a label into a row that every label uses again. */
    private static final class LabelWriter {
        final char[] signs = new char[MOST_LABEL];
        int length = 0;

        void write(Can can) {
            length = 0;
            put('b');
            putNumber(can.base);
            for (int i = 0; i < MOST_COLORANTS; i++) {
                if (can.steps[i] > 0) {
                    putColorant(can, i);
                }
            }
            if (can.corrections > 0) {
                put('+');
                putNumber(can.correctedSteps);
            }
        }

        private void putColorant(Can can, int colorant) {
            put(',');
            putNumber(colorant);
            put('=');
            putNumber(can.steps[colorant]);
            for (int number = 0; number <= MOST_LOT_NUMBER; number++) {
                if (can.holdsLot(colorant, number)) {
                    put(':');
                    putNumber(number);
                }
            }
        }

        /** No number in a label has more than three digits. */
        private void putNumber(int number) {
            for (int power = 100; power >= 1; power /= TEN) {
                if (number >= power || power == 1) {
                    put((char) ('0' + number / power % TEN));
                }
            }
        }

        private void put(char sign) {
            if (length < MOST_LABEL) {
                signs[length] = sign;
                length++;
            }
        }
    }
}

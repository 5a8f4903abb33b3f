/**
 * A desk whose calls are counted: what an object answers after its 512th call is free, so no test may ask it.
 */
final class CountedDesk {
    static final int MOST_CALLS = 512;

    private final TintDesk desk = new TintDesk();
    private int calls = 0;

    int callsLeft() {
        return MOST_CALLS - calls;
    }

    private TintDesk called() {
        calls++;
        if (calls > MOST_CALLS) {
            throw new AssertionError("a test calls an object more than 512 times");
        }
        return desk;
    }

    int addColorant(int first, int second, int third) {
        return called().addColorant(first, second, third);
    }

    int setLife(int colorant, int life) {
        return called().setLife(colorant, life);
    }

    int refill(int colorant, int lot, int steps) {
        return called().refill(colorant, lot, steps);
    }

    int recall(int colorant, int lot) {
        return called().recall(colorant, lot);
    }

    int colorant(int colorant, int what) {
        return called().colorant(colorant, what);
    }

    int lot(int colorant, int index, int what) {
        return called().lot(colorant, index, what);
    }

    int pass(int days) {
        return called().pass(days);
    }

    int addBase(int first, int second, int third, int limit) {
        return called().addBase(first, second, third, limit);
    }

    int setStock(int base, int stock) {
        return called().setStock(base, stock);
    }

    int base(int base, int what) {
        return called().base(base, what);
    }

    void append(char c) {
        called().append(c);
    }

    int readFormula() {
        return called().readFormula();
    }

    int faultPosition() {
        return called().faultPosition();
    }

    int setAmount(int formula, int colorant, int amount) {
        return called().setAmount(formula, colorant, amount);
    }

    int amount(int formula, int colorant, boolean isCarry) {
        return called().amount(formula, colorant, isCarry);
    }

    int baseOf(int formula) {
        return called().baseOf(formula);
    }

    int closest(int can) {
        return called().closest(can);
    }

    int mix(int formula) {
        return called().mix(formula);
    }

    int possible(int formula) {
        return called().possible(formula);
    }

    int refusal() {
        return called().refusal();
    }

    int lacking() {
        return called().lacking();
    }

    int steps(int can, int colorant) {
        return called().steps(can, colorant);
    }

    int can(int can, int what) {
        return called().can(can, what);
    }

    int colour(int can, int axis) {
        return called().colour(can, axis);
    }

    int correct(int can, int colorant, int steps) {
        return called().correct(can, colorant, steps);
    }

    int least(int can, int first, int second, int third, int tolerance, int colorant) {
        return called().least(can, first, second, third, tolerance, colorant);
    }

    boolean hasLot(int can, int colorant, int lot) {
        return called().hasLot(can, colorant, lot);
    }

    int canWith(int colorant, int lot, int index) {
        return called().canWith(colorant, lot, index);
    }

    int formulasWith(int colorant, int lot) {
        return called().formulasWith(colorant, lot);
    }

    int labelLength(int can) {
        return called().labelLength(can);
    }

    char label(int can, int index) {
        return called().label(can, index);
    }

    double meanSteps(int formula) {
        return called().meanSteps(formula);
    }

    int account(int what) {
        return called().account(what);
    }

    int undo() {
        return called().undo();
    }

    void save() {
        called().save();
    }

    void restore() {
        called().restore();
    }
}

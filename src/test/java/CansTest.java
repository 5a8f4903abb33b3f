import java.util.NoSuchElementException;

/** Promises 19 to 33. */
public final class CansTest {
    private static final Class<IndexOutOfBoundsException> NO_INDEX = IndexOutOfBoundsException.class;
    private static final Class<IllegalArgumentException> BAD_ARGUMENT = IllegalArgumentException.class;
    private static final Class<UnsupportedOperationException> REFUSED = UnsupportedOperationException.class;
    private static final Class<NoSuchElementException> NO_ELEMENT = NoSuchElementException.class;
    private static final Check CHECK = new Check();

    public static void main(String[] args) {
        mix();
        mixRefused();
        mixTwentyCans();
        mixAtTheEdges();
        possible();
        possibleWithCarries();
        refusal();
        lacking();
        steps();
        can();
        colour();
        correct();
        correctRefused();
        least();
        leastOfSeveral();
        leastWithinBounds();
        leastWithFarColours();
        hasLot();
        canWith();
        formulasWith();
        label();
        longestLabel();
        meanSteps();
        CHECK.end();
    }

    private static void mix() {
        CountedDesk desk = Desks.readyToMix();
        CHECK.fails("19: formula 1", NO_INDEX, () -> desk.mix(1));
        CHECK.fails("19: formula -1", NO_INDEX, () -> desk.mix(-1));
        CHECK.fails("19: no reason is kept", NO_ELEMENT, desk::refusal);
        int[][] due = {{2, 1, 50, 33}, {3, 1, 0, 66}, {2, 1, 50, 99}, {3, 2, 0, 32}};
        for (int i = 0; i < due.length; i++) {
            CHECK.same("19: can", i, desk.mix(0));
            CHECK.same("19: steps of 0", due[i][0], desk.steps(i, 0));
            CHECK.same("19: steps of 1", due[i][1], desk.steps(i, 1));
            CHECK.same("19: carry of 0", due[i][2], desk.amount(0, 0, true));
            CHECK.same("19: carry of 1", due[i][3], desk.amount(0, 1, true));
        }
        CHECK.same("19: stock", 5, desk.base(0, 4));
        CHECK.same("19: in the canister", 17, desk.colorant(0, 3));
        CHECK.same("19: used up lots go", 1, desk.colorant(0, 4));
        CHECK.same("19: pumped", 10, desk.colorant(0, 6));
        CHECK.same("19: the last lot is the first now", 17, desk.lot(0, 0, 1));
    }

    private static void mixRefused() {
        CountedDesk desk = new CountedDesk();
        desk.addColorant(1, 1, 1);
        desk.addColorant(1, 1, 1);
        desk.addBase(0, 0, 0, 3);
        Desks.formula(desk, "b0:0=250,1=150");
        CHECK.fails("19: all is amiss", REFUSED, () -> desk.mix(0));
        CHECK.same("19: no stock comes first", 3, desk.refusal());
        desk.setStock(0, 2);
        desk.setAmount(0, 1, 200);
        CHECK.fails("19: over the limit", REFUSED, () -> desk.mix(0));
        CHECK.same("19: that is reason 4", 4, desk.refusal());
        desk.setAmount(0, 1, 199);
        CHECK.fails("19: both lack", REFUSED, () -> desk.mix(0));
        CHECK.same("19: that is reason 5", 5, desk.refusal());
        CHECK.same("19: the lowest one is kept", 0, desk.lacking());
        desk.refill(0, 0, 2);
        CHECK.fails("19: one lacks", REFUSED, () -> desk.mix(0));
        CHECK.same("19: which is 1", 1, desk.lacking());
        CHECK.same("19: no carry", 0, desk.account(10));
        CHECK.same("19: nothing was pumped", 2, desk.account(4));
        CHECK.same("19: stock stays", 2, desk.base(0, 4));
        desk.refill(1, 0, 1);
        CHECK.same("19: just enough", 0, desk.mix(0));
        CHECK.same("19: the canisters are empty", 0, desk.account(4));
        CHECK.same("19: without lots", 0, desk.colorant(0, 4));
        CHECK.same("19: carries", 149, desk.account(10));
        CHECK.fails("19: over the limit by carries", REFUSED, () -> desk.mix(0));
        CHECK.same("19: reason 4 by carries", 4, desk.refusal());
        CHECK.same("19: carries stay", 149, desk.account(10));
    }

    private static void mixTwentyCans() {
        CountedDesk desk = Desks.withTwoColorants();
        desk.setStock(0, 99);
        Desks.formula(desk, "b0:0=0");
        for (int i = 0; i < 20; i++) {
            CHECK.same("19: can", i, desk.mix(0));
        }
        desk.setStock(0, 0);
        CHECK.fails("19: a can more", REFUSED, () -> desk.mix(0));
        CHECK.same("19: reason 2 comes first", 2, desk.refusal());
        CHECK.same("19: 20 cans", 20, desk.account(3));
        CHECK.same("20: none is possible", 0, desk.possible(0));
        desk.undo();
        desk.undo();
        CHECK.same("20: one is possible again", 1, desk.possible(0));
        CHECK.same("19: can 19 again", 19, desk.mix(0));
    }

    private static void mixAtTheEdges() {
        CountedDesk desk = new CountedDesk();
        for (int i = 0; i < 8; i++) {
            desk.addColorant(9, 9, 9);
            desk.refill(i, i, 25);
        }
        desk.addBase(99, 99, 99, 200);
        desk.addBase(0, 0, 0, 0);
        desk.setStock(0, 1);
        desk.setStock(1, 1);
        Desks.formula(desk, "b0:0=2500,1=2500,2=2500,3=2500,4=2500");
        desk.setAmount(0, 5, 2500);
        desk.setAmount(0, 6, 2500);
        desk.setAmount(0, 7, 2500);
        CHECK.same("19: to the limit", 0, desk.mix(0));
        CHECK.same("19: 200 steps", 200, desk.can(0, 2));
        CHECK.same("25: the greatest colour", 1899, desk.colour(0, 1));
        Desks.formula(desk, "b1:0=99,7=99");
        CHECK.same("19: limit 0 takes 0 steps", 1, desk.mix(1));
        CHECK.same("19: the last of the stock", 0, desk.base(1, 4));
        CHECK.fails("19: no stock is left", REFUSED, () -> desk.mix(1));
        CHECK.same("19: reason 3", 3, desk.refusal());
    }

    private static void possible() {
        CountedDesk desk = Desks.readyToMix();
        CHECK.fails("20: formula 1", NO_INDEX, () -> desk.possible(1));
        CHECK.fails("20: formula -1", NO_INDEX, () -> desk.possible(-1));
        String before = Desks.dump(desk);
        CHECK.same("20: by the stock", 9, desk.possible(0));
        desk.setStock(0, 99);
        CHECK.same("20: by the canister", 11, desk.possible(0));
        desk.refill(0, 1, 500);
        CHECK.same("20: by 20 cans", 20, desk.possible(0));
        desk.mix(0);
        CHECK.same("20: by 19 cans more", 19, desk.possible(0));
        desk.setStock(0, 1);
        desk.setAmount(0, 1, 5400);
        CHECK.same("20: not even one", 0, desk.possible(0));
        desk.undo();
        CHECK.same("20: one for the stock", 1, desk.possible(0));
        desk.undo();
        desk.setStock(0, 0);
        CHECK.same("20: without stock", 0, desk.possible(0));
        CHECK.fails("20: keeps no reason", NO_ELEMENT, desk::refusal);
        for (int i = 0; i < 4; i++) {
            desk.undo();
        }
        CHECK.same("20: changes nothing", before, Desks.dump(desk));
    }

    private static void possibleWithCarries() {
        CountedDesk desk = Desks.withTwoColorants();
        desk.refill(0, 0, 100);
        desk.refill(1, 0, 100);
        desk.addBase(0, 0, 0, 3);
        desk.setStock(1, 50);
        Desks.formula(desk, "b1:0=150,1=125");
        CHECK.same("20: the fourth can would have 2 and 2 steps", 3, desk.possible(0));
        for (int i = 0; i < 3; i++) {
            desk.mix(0);
            CHECK.same("20: fewer", 2 - i, desk.possible(0));
        }
        CHECK.fails("20: as mix says", REFUSED, () -> desk.mix(0));
        CHECK.same("20: for the limit", 4, desk.refusal());
        desk.setAmount(0, 0, 50);
        desk.setAmount(0, 1, 0);
        desk.recall(0, 0);
        CHECK.same("20: half a step without steps", 1, desk.possible(0));
        desk.refill(0, 0, 2);
        CHECK.same("20: half a step with two steps", 5, desk.possible(0));
    }

    private static void refusal() {
        CountedDesk desk = Desks.withTwoColorants();
        CHECK.fails("21: none was refused", NO_ELEMENT, desk::refusal);
        Desks.formula(desk, "b0:0=900");
        CHECK.fails("21: mix", REFUSED, () -> desk.mix(0));
        CHECK.same("21: 4", 4, desk.refusal());
        desk.setAmount(0, 0, 100);
        CHECK.same("21: a success leaves it", 4, desk.refusal());
        CHECK.fails("21: another exception", NO_INDEX, () -> desk.mix(5));
        CHECK.same("21: leaves it", 4, desk.refusal());
        CHECK.fails("21: mix", REFUSED, () -> desk.mix(0));
        CHECK.same("21: 5", 5, desk.refusal());
        desk.save();
        Desks.type(desk, "b7:0=1");
        CHECK.fails("21: readFormula", REFUSED, desk::readFormula);
        CHECK.same("21: 1", 1, desk.refusal());
        desk.undo();
        CHECK.same("21: undo leaves it", 1, desk.refusal());
        desk.restore();
        CHECK.same("21: restore leaves it", 1, desk.refusal());
    }

    private static void lacking() {
        CountedDesk desk = Desks.withTwoColorants();
        CHECK.fails("22: nothing", NO_ELEMENT, desk::lacking);
        desk.save();
        Desks.formula(desk, "b0:1=100");
        CHECK.fails("22: mix", REFUSED, () -> desk.mix(0));
        CHECK.same("22: colorant 1", 1, desk.lacking());
        desk.refill(1, 1, 50);
        CHECK.same("22: stays", 1, desk.lacking());
        desk.mix(0);
        CHECK.fails("22: correct", REFUSED, () -> desk.correct(0, 0, 1));
        CHECK.same("22: colorant 0", 0, desk.lacking());
        desk.undo();
        desk.restore();
        CHECK.same("22: stays with undo and restore", 0, desk.lacking());
        desk.setStock(0, 0);
        Desks.formula(desk, "b0:1=100");
        CHECK.fails("22: another reason", REFUSED, () -> desk.mix(0));
        CHECK.fails("22: is no lack", NO_ELEMENT, desk::lacking);
        CHECK.same("22: it is 3", 3, desk.refusal());
    }

    private static void steps() {
        CountedDesk desk = Desks.readyToMix();
        CHECK.fails("23: no can", NO_INDEX, () -> desk.steps(0, 0));
        desk.mix(0);
        desk.correct(0, 1, 2);
        CHECK.same("23: of 0", 2, desk.steps(0, 0));
        CHECK.same("23: of 1", 3, desk.steps(0, 1));
        CHECK.fails("23: colorant 2", NO_INDEX, () -> desk.steps(0, 2));
        CHECK.fails("23: colorant -1", NO_INDEX, () -> desk.steps(0, -1));
        CHECK.fails("23: can 1", NO_INDEX, () -> desk.steps(1, 0));
        CHECK.fails("23: can -1", NO_INDEX, () -> desk.steps(-1, 0));
        desk.addColorant(0, 0, 0);
        CHECK.same("23: of a later one", 0, desk.steps(0, 2));
    }

    private static void can() {
        CountedDesk desk = Desks.readyToMix();
        desk.addBase(0, 0, 0, 50);
        desk.setStock(1, 1);
        Desks.formula(desk, "b1:1=500");
        desk.mix(0);
        desk.mix(1);
        desk.correct(1, 0, 4);
        desk.correct(1, 1, 3);
        int[][] due = {{0, 0, 3, 0, 0, 5}, {1, 1, 12, 2, 7, 38}};
        for (int k = 0; k < 2; k++) {
            for (int what = 0; what <= 5; what++) {
                CHECK.same("24: can " + k + ", " + what, due[k][what], desk.can(k, what));
            }
        }
        CHECK.fails("24: what -1", BAD_ARGUMENT, () -> desk.can(0, -1));
        CHECK.fails("24: what 6", BAD_ARGUMENT, () -> desk.can(0, 6));
        CHECK.fails("24: can 2", NO_INDEX, () -> desk.can(2, 6));
        CHECK.fails("24: can -1", NO_INDEX, () -> desk.can(-1, 0));
    }

    private static void colour() {
        CountedDesk desk = Desks.readyToMix();
        CHECK.fails("25: no can", NO_INDEX, () -> desk.colour(0, 3));
        desk.mix(0);
        desk.correct(0, 1, 4);
        CHECK.same("25: axis 0", 12, desk.colour(0, 0));
        CHECK.same("25: axis 1", 30, desk.colour(0, 1));
        CHECK.same("25: axis 2", 35, desk.colour(0, 2));
        CHECK.fails("25: axis -1", BAD_ARGUMENT, () -> desk.colour(0, -1));
        CHECK.fails("25: axis 3", BAD_ARGUMENT, () -> desk.colour(0, 3));
        CHECK.fails("25: can -1", NO_INDEX, () -> desk.colour(-1, 0));
    }

    private static void correct() {
        CountedDesk desk = Desks.readyToMix();
        CHECK.fails("26: no can", NO_INDEX, () -> desk.correct(0, 0, 0));
        desk.mix(0);
        CHECK.fails("26: can -1", NO_INDEX, () -> desk.correct(-1, 0, 1));
        CHECK.fails("26: colorant 2", NO_INDEX, () -> desk.correct(0, 2, 51));
        CHECK.fails("26: colorant -1", NO_INDEX, () -> desk.correct(0, -1, 1));
        CHECK.fails("26: steps 0", BAD_ARGUMENT, () -> desk.correct(0, 0, 0));
        CHECK.fails("26: steps 51", BAD_ARGUMENT, () -> desk.correct(0, 0, 51));
        CHECK.same("26: all steps", 7, desk.correct(0, 0, 4));
        CHECK.same("26: of the colorant", 6, desk.steps(0, 0));
        CHECK.same("26: pumped from the first lots", 21, desk.colorant(0, 3));
        CHECK.same("26: used up lots go", 2, desk.colorant(0, 4));
        CHECK.same("26: the second lot is in it", true, desk.hasLot(0, 0, 9));
        CHECK.same("26: carries stay", 50, desk.amount(0, 0, true));
        CHECK.same("26: amounts stay", 250, desk.amount(0, 0, false));
        CHECK.same("26: stock stays", 8, desk.base(0, 4));
        CHECK.same("26: to the limit", 8, desk.correct(0, 1, 1));
        CHECK.same("26: two corrections", 2, desk.can(0, 3));
        CHECK.same("26: with five steps", 5, desk.can(0, 4));
    }

    private static void correctRefused() {
        CountedDesk desk = Desks.readyToMix();
        desk.mix(0);
        desk.recall(0, 9);
        desk.recall(0, 7);
        desk.refill(0, 3, 4);
        CHECK.fails("26: over the limit, and lacking", REFUSED, () -> desk.correct(0, 0, 6));
        CHECK.same("26: the limit comes first", 4, desk.refusal());
        CHECK.fails("26: so nothing lacks", NO_ELEMENT, desk::lacking);
        CHECK.fails("26: one step is missing", REFUSED, () -> desk.correct(0, 0, 5));
        CHECK.same("26: reason 5", 5, desk.refusal());
        CHECK.same("26: of 0", 0, desk.lacking());
        CHECK.fails("26: range before refusal", BAD_ARGUMENT, () -> desk.correct(0, 0, 51));
        CHECK.same("26: not corrected", 0, desk.can(0, 3));
        CHECK.same("26: not pumped", 4, desk.colorant(0, 3));
        CHECK.same("26: all that is there", 7, desk.correct(0, 0, 4));
        CountedDesk other = Desks.readyToMix();
        other.addBase(0, 0, 0, 200);
        other.setStock(1, 1);
        Desks.formula(other, "b1:0=0");
        other.mix(1);
        CHECK.same("26: 50 steps", 50, other.correct(0, 1, 50));
        CHECK.fails("26: none is left", REFUSED, () -> other.correct(0, 1, 1));
        CHECK.same("26: of 1", 1, other.lacking());
    }

    private static void least() {
        CountedDesk desk = Desks.readyToMix();
        CHECK.fails("27: no can", NO_INDEX, () -> desk.least(0, 0, 0, 0, -1, -1));
        desk.mix(0);
        CHECK.fails("27: colorant 2", NO_INDEX, () -> desk.least(0, 0, 0, 0, 100, 2));
        CHECK.fails("27: colorant -2", NO_INDEX, () -> desk.least(0, 0, 0, 0, 0, -2));
        CHECK.fails("27: can -1", NO_INDEX, () -> desk.least(-1, 0, 0, 0, 0, -1));
        CHECK.fails("27: can 1", NO_INDEX, () -> desk.least(1, 0, 0, 0, 0, -1));
        CHECK.fails("27: tolerance -1", BAD_ARGUMENT, () -> desk.least(0, 0, 0, 0, -1, -1));
        CHECK.fails("27: tolerance 100", BAD_ARGUMENT, () -> desk.least(0, 12, 22, 31, 100, 0));
        String before = Desks.dump(desk);
        CHECK.same("27: as it is", 0, desk.least(0, 12, 22, 31, 0, -1));
        CHECK.same("27: as it is, within 99", 0, desk.least(0, 111, -77, 130, 99, -1));
        CHECK.same("27: all together", 5, desk.least(0, 15, 26, 33, 0, -1));
        CHECK.same("27: of 0", 3, desk.least(0, 15, 26, 33, 0, 0));
        CHECK.same("27: of 1", 2, desk.least(0, 15, 26, 33, 0, 1));
        CHECK.same("27: within 1, of 0", 2, desk.least(0, 15, 26, 33, 1, 0));
        CHECK.same("27: within 1, of 1", 2, desk.least(0, 15, 26, 33, 1, 1));
        CHECK.same("27: within 2, of 1", 1, desk.least(0, 15, 26, 33, 2, 1));
        CHECK.same("27: within 2, of 0", 1, desk.least(0, 15, 26, 33, 2, 0));
        CHECK.fails("27: not reached", NO_ELEMENT, () -> desk.least(0, 11, 22, 31, 0, -1));
        CHECK.fails("27: not on the axis 2", NO_ELEMENT, () -> desk.least(0, 12, 24, 31, 0, 1));
        CHECK.same("27: it changes nothing", before, Desks.dump(desk));
        CHECK.fails("27: and keeps no reason", NO_ELEMENT, desk::refusal);
    }

    private static void leastOfSeveral() {
        CountedDesk desk = new CountedDesk();
        desk.addColorant(1, 0, 0);
        desk.addColorant(0, 1, 0);
        desk.addColorant(1, 1, 0);
        desk.addColorant(2, 0, 0);
        desk.addColorant(0, 0, 0);
        desk.addColorant(0, 0, 0);
        desk.addColorant(2, 0, 0);
        desk.addColorant(0, 0, 9);
        desk.addBase(0, 0, 0, 50);
        desk.setStock(0, 1);
        for (int i = 0; i < 8; i++) {
            desk.refill(i, i, 9);
        }
        Desks.formula(desk, "b0:0=0");
        desk.mix(0);
        int[] due = {0, 0, 1, 1, 0, 0, 0, 0};
        int[] dueLater = {1, 1, 0, 1, 0, 0, 0, 0};
        for (int i = 0; i < 8; i++) {
            CHECK.same("27: fewest steps, then most of the first, " + i, due[i], desk.least(0, 3, 1, 0, 0, i));
        }
        desk.recall(2, 2);
        for (int i = 0; i < 8; i++) {
            CHECK.same("27: without colorant 2, " + i, dueLater[i], desk.least(0, 3, 1, 0, 0, i));
        }
        CHECK.same("27: 3 rather than 6", 2, desk.least(0, 4, 0, 0, 0, 3));
        CHECK.same("27: none of 6", 0, desk.least(0, 4, 0, 0, 0, 6));
        CHECK.same("27: 0 twice rather than 3 alone is no less", 1, desk.least(0, 2, 0, 0, 0, -1));
        CHECK.same("27: three of 7", 3, desk.least(0, 0, 0, 27, 0, 7));
        CHECK.same("27: most of 0 within 1", 1, desk.least(0, 2, 0, 0, 1, 0));
        CHECK.same("27: none of 3 within 1", 0, desk.least(0, 2, 0, 0, 1, 3));
    }

    private static void leastWithinBounds() {
        CountedDesk desk = Desks.withTwoColorants();
        desk.addBase(0, 0, 0, 200);
        desk.setStock(1, 9);
        desk.refill(0, 0, 20);
        desk.refill(1, 0, 2);
        Desks.formula(desk, "b1:0=0");
        desk.mix(0);
        CHECK.same("27: six steps", 6, desk.least(0, 6, 0, 0, 0, -1));
        CHECK.fails("27: seven steps", NO_ELEMENT, () -> desk.least(0, 7, 0, 0, 0, -1));
        CHECK.same("27: all of a canister", 2, desk.least(0, 0, 4, 2, 0, 1));
        CHECK.fails("27: more than a canister", NO_ELEMENT, () -> desk.least(0, 0, 6, 3, 0, -1));
        Desks.formula(desk, "b0:0=400");
        desk.mix(1);
        CHECK.same("27: to the limit", 4, desk.least(1, 18, 20, 30, 0, -1));
        CHECK.fails("27: over the limit", NO_ELEMENT, () -> desk.least(1, 19, 20, 30, 0, -1));
        desk.correct(1, 0, 4);
        CHECK.same("27: at the limit", 0, desk.least(1, 18, 20, 30, 0, -1));
        CHECK.fails("27: no room", NO_ELEMENT, () -> desk.least(1, 19, 20, 30, 0, -1));
    }

    private static void leastWithFarColours() {
        CountedDesk desk = Desks.readyToMix();
        desk.mix(0);
        int[] far = {Integer.MIN_VALUE, Integer.MIN_VALUE + 1, -2147483600, Integer.MAX_VALUE, 2147483600};
        for (int value : far) {
            CHECK.fails("27: axis 0 far", NO_ELEMENT, () -> desk.least(0, value, 22, 31, 99, -1));
            CHECK.fails("27: axis 1 far", NO_ELEMENT, () -> desk.least(0, 12, value, 31, 99, -1));
            CHECK.fails("27: axis 2 far", NO_ELEMENT, () -> desk.least(0, 12, 22, value, 99, -1));
        }
    }

    private static void hasLot() {
        CountedDesk desk = Desks.readyToMix();
        CHECK.fails("28: no can", NO_INDEX, () -> desk.hasLot(0, 0, 0));
        desk.mix(0);
        desk.mix(0);
        CHECK.same("28: can 0 has 7", true, desk.hasLot(0, 0, 7));
        CHECK.same("28: can 0 has no 9", false, desk.hasLot(0, 0, 9));
        CHECK.same("28: can 1 has 7", true, desk.hasLot(1, 0, 7));
        CHECK.same("28: can 1 has 9", true, desk.hasLot(1, 0, 9));
        CHECK.same("28: not of colorant 1", false, desk.hasLot(1, 1, 7));
        desk.recall(0, 7);
        CHECK.same("28: a recall does not take it out", true, desk.hasLot(0, 0, 7));
        desk.refill(0, 99, 9);
        desk.refill(0, 0, 1);
        CHECK.fails("28: can 2", NO_INDEX, () -> desk.hasLot(2, 0, 100));
        CHECK.fails("28: can -1", NO_INDEX, () -> desk.hasLot(-1, 0, 7));
        CHECK.fails("28: colorant 2", NO_INDEX, () -> desk.hasLot(0, 2, 100));
        CHECK.fails("28: colorant -1", NO_INDEX, () -> desk.hasLot(0, -1, 7));
        CHECK.fails("28: lot -1", BAD_ARGUMENT, () -> desk.hasLot(0, 0, -1));
        CHECK.fails("28: lot 100", BAD_ARGUMENT, () -> desk.hasLot(0, 0, 100));
        hasEachLot();
    }

    private static void hasEachLot() {
        CountedDesk desk = new CountedDesk();
        desk.addColorant(0, 0, 0);
        desk.addColorant(0, 0, 0);
        desk.addBase(0, 0, 0, 200);
        desk.setStock(0, 1);
        Desks.formula(desk, "b0:0=0");
        desk.mix(0);
        for (int lot = 0; lot < 100; lot += 3) {
            desk.refill(0, lot, 1);
            desk.correct(0, 0, 1);
        }
        for (int lot = 0; lot < 100; lot++) {
            CHECK.same("28: lot " + lot, lot % 3 == 0, desk.hasLot(0, 0, lot));
            CHECK.same("28: lot of the other " + lot, false, desk.hasLot(0, 1, lot));
        }
    }

    private static void canWith() {
        CountedDesk desk = Desks.readyToMix();
        CHECK.fails("29: no can yet", NO_ELEMENT, () -> desk.canWith(0, 7, 0));
        desk.mix(0);
        desk.mix(0);
        desk.mix(0);
        desk.mix(0);
        CHECK.same("29: first with 7", 0, desk.canWith(0, 7, 0));
        CHECK.same("29: second with 7", 1, desk.canWith(0, 7, 1));
        CHECK.same("29: third with 7", 3, desk.canWith(0, 7, 2));
        CHECK.fails("29: no fourth", NO_ELEMENT, () -> desk.canWith(0, 7, 3));
        CHECK.same("29: first with 9", 1, desk.canWith(0, 9, 0));
        CHECK.same("29: second with 9", 2, desk.canWith(0, 9, 1));
        CHECK.fails("29: index -1", NO_ELEMENT, () -> desk.canWith(0, 7, -1));
        CHECK.fails("29: none with 8", NO_ELEMENT, () -> desk.canWith(0, 8, 0));
        desk.refill(1, 0, 1);
        desk.refill(1, 99, 1);
        desk.recall(1, 1);
        desk.correct(2, 1, 2);
        CHECK.same("29: lot 0", 2, desk.canWith(1, 0, 0));
        CHECK.same("29: lot 99", 2, desk.canWith(1, 99, 0));
        CHECK.same("30: lot 0", 1, desk.formulasWith(1, 0));
        CHECK.same("30: lot 99", 1, desk.formulasWith(1, 99));
        CHECK.fails("29: lot -1", BAD_ARGUMENT, () -> desk.canWith(0, -1, 99));
        CHECK.fails("29: lot 100", BAD_ARGUMENT, () -> desk.canWith(0, 100, 99));
        CHECK.fails("29: colorant 2", NO_INDEX, () -> desk.canWith(2, 100, 0));
        CHECK.fails("29: colorant -1", NO_INDEX, () -> desk.canWith(-1, 7, 0));
    }

    private static void formulasWith() {
        CountedDesk desk = Desks.readyToMix();
        CHECK.same("30: none", 0, desk.formulasWith(0, 7));
        for (int i = 1; i < 10; i++) {
            Desks.formula(desk, "b0:1=100");
        }
        desk.mix(9);
        desk.mix(0);
        desk.mix(4);
        desk.mix(9);
        CHECK.same("30: with 1 of 1", 1 << 9 | 1 | 1 << 4, desk.formulasWith(1, 1));
        CHECK.same("30: with 7 of 0", 1, desk.formulasWith(0, 7));
        CHECK.same("30: with 9 of 0", 0, desk.formulasWith(0, 9));
        desk.correct(2, 0, 5);
        CHECK.same("30: by a correction", 1 << 4, desk.formulasWith(0, 9));
        CHECK.fails("30: lot -1", BAD_ARGUMENT, () -> desk.formulasWith(0, -1));
        CHECK.fails("30: lot 100", BAD_ARGUMENT, () -> desk.formulasWith(0, 100));
        CHECK.fails("30: colorant 2", NO_INDEX, () -> desk.formulasWith(2, 100));
        CHECK.fails("30: colorant -1", NO_INDEX, () -> desk.formulasWith(-1, 7));
    }

    private static void label() {
        CountedDesk desk = Desks.readyToMix();
        desk.addBase(0, 0, 0, 200);
        desk.setStock(1, 9);
        desk.refill(0, 0, 100);
        desk.refill(0, 10, 5);
        desk.addColorant(0, 0, 0);
        Desks.formula(desk, "b1:0=10,1=10");
        Desks.formula(desk, "b1:1=99");
        desk.setAmount(2, 1, 1000);
        CHECK.fails("31: no can", NO_INDEX, () -> desk.labelLength(0));
        CHECK.fails("32: no can", NO_INDEX, () -> desk.label(0, -1));
        desk.mix(1);
        desk.mix(0);
        desk.mix(0);
        desk.mix(2);
        CHECK.same("32: a can without steps", "b1", Desks.label(desk, 0));
        CHECK.same("32: one lot", "b0,0=2:7,1=1:1", Desks.label(desk, 1));
        CHECK.same("32: lots in ascending order", "b0,0=3:7:9,1=1:1", Desks.label(desk, 2));
        CHECK.same("32: two digits", "b1,1=10:1", Desks.label(desk, 3));
        desk.correct(3, 0, 25);
        CHECK.same("32: a correction, lot 0", "b1,0=25:0:7:9,1=10:1+25", Desks.label(desk, 3));
        for (int i = 0; i < 2; i++) {
            desk.correct(3, 0, 50);
        }
        CHECK.same("32: three digits", "b1,0=125:0:7:9:10,1=10:1+125", Desks.label(desk, 3));
        desk.correct(0, 1, 1);
        CHECK.same("32: a correction alone", "b1,1=1:1+1", Desks.label(desk, 0));
        CHECK.same("31: length", 14, desk.labelLength(1));
        CHECK.fails("31: can 4", NO_INDEX, () -> desk.labelLength(4));
        CHECK.fails("31: can -1", NO_INDEX, () -> desk.labelLength(-1));
        CHECK.same("32: its end", '1', desk.label(1, 13));
        CHECK.fails("32: behind its end", NO_ELEMENT, () -> desk.label(1, 14));
        CHECK.fails("32: index -1", NO_ELEMENT, () -> desk.label(1, -1));
        CHECK.fails("32: can 4", NO_INDEX, () -> desk.label(4, -1));
        CHECK.fails("32: can -1", NO_INDEX, () -> desk.label(-1, 0));
    }

    /** A desk cannot be asked for all signs of it within its 512 calls, so several are. */
    private static void longestLabel() {
        String due = Desks.longestLabel();
        CHECK.same("31: its length", 646, due.length());
        for (int from = 0; from < due.length(); from += 200) {
            CountedDesk desk = Desks.withTheLongestLabel();
            CHECK.same("31: the longest label", due.length(), desk.labelLength(0));
            for (int i = from; i < Math.min(due.length(), from + 200); i++) {
                CHECK.same("32: the longest label, " + i, due.charAt(i), desk.label(0, i));
            }
        }
        eachLotOfTwoColorants();
    }

    /** All lot numbers there are, each twice: shorter, since ten of them have one digit. */
    private static void eachLotOfTwoColorants() {
        CountedDesk desk = Desks.withAnEmptyCan(2, 200);
        for (int colorant = 0; colorant < 2; colorant++) {
            desk.recall(colorant, colorant);
            for (int lot = 99; lot >= 0; lot--) {
                desk.refill(colorant, lot, 1);
                if (lot % 10 == 0) {
                    desk.correct(0, colorant, 10);
                }
            }
        }
        CHECK.same("31: each lot of two colorants", 598, desk.labelLength(0));
        CHECK.same("32: its last sign", '0', desk.label(0, 597));
    }

    private static void meanSteps() {
        CountedDesk desk = Desks.readyToMix();
        CHECK.fails("33: no can", ArithmeticException.class, () -> desk.meanSteps(0));
        CHECK.fails("33: formula 1", NO_INDEX, () -> desk.meanSteps(1));
        CHECK.fails("33: formula -1", NO_INDEX, () -> desk.meanSteps(-1));
        Desks.formula(desk, "b0:0=0");
        desk.mix(1);
        CHECK.same("33: zero", 0.0, desk.meanSteps(1));
        CHECK.fails("33: still none of 0", ArithmeticException.class, () -> desk.meanSteps(0));
        desk.mix(0);
        CHECK.same("33: one", 3.0, desk.meanSteps(0));
        desk.mix(0);
        CHECK.same("33: two", 3.5, desk.meanSteps(0));
        desk.mix(0);
        CHECK.same("33: three", 10.0 / 3.0, desk.meanSteps(0));
        desk.correct(1, 0, 1);
        CHECK.same("33: with corrections", 11.0 / 3.0, desk.meanSteps(0));
    }
}

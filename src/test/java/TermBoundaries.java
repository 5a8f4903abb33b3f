/** The terms from colours to corrections. */
final class TermBoundaries extends Boundaries {
    TermBoundaries(Sentences sentences, Check check) {
        super(sentences, check);
    }

    @Override
    void tell() {
        colours();
        canisters();
        days();
        formulas();
        cans();
    }

    private void term(String words, Check.Call test) {
        holds("Terms", words, test);
    }

    private void colours() {
        term("Colours. A colour has three values, on the axes 0, 1 and 2.", this::threeAxes);
        term("At most 8 colorants are made, numbered from 0", this::eightColorants);
        term("each with a value from 0 to 9 on each axis", this::colorantValues);
        term("at most 6 bases, numbered from 0", this::sixBases);
        term("each with a value from 0 to 99 on each axis", this::baseValues);
        term("a limit from 0 to 200", this::limits);
        term("a stock from 0 to 99, 0 at first", this::stocks);
        term("The colour of a can has on each axis the value of its base, plus, for each colorant, the value of the "
            + "colorant times its steps in the can.", this::coloursOfCans);
    }

    private void canisters() {
        term("Canisters. Each colorant has a canister with lots in a row", this::canistersApart);
        term("a lot has a number from 0 to 99 and steps.", this::lotNumbers);
        term("A refill is put behind the others as a lot of its own, also if there is a lot with its number.",
            this::refillsBehind);
        term("At most 12 lots are in a canister.", this::twelveLots);
        term("When steps are pumped, they come from the first lot, and, when it is used up, it goes and the next one "
            + "follows.", this::firstLotFirst);
    }

    private void days() {
        term("Days. Today is a day from 0 to 400, 0 at first.", this::today);
        term("A colorant has a life from 1 to 99 days, 60 at first.", this::lives);
        term("A lot keeps up to the day on which it was refilled plus the life of its colorant at that time.",
            this::keepsUpTo);
        term("When a day goes by, today increases by 1, and then each lot that does not keep up to today goes; its "
            + "steps are wasted.", this::aDayGoesBy);
    }

    private void formulas() {
        term("Formulas. At most 10 formulas are made, numbered from 0.", this::tenFormulas);
        term("A formula has a base and, for each colorant, an amount from 0 to 9999 in hundredths of a step, at first "
            + "0.", this::amounts);
        term("It has a carry for each colorant, in hundredths, at first 0.", this::carriesAtFirst);
        term("When a can is mixed, the steps of each colorant are the amount plus the carry, divided by 100 and "
            + "rounded down; the carry becomes the rest.", this::roundedDown);
        term("When an amount is set, its carry becomes 0.", this::amountSet);
    }

    private void cans() {
        term("Cans. At most 20 cans are ever mixed, numbered from 0.", this::twentyCans);
        term("A can has a formula, a base, and, for each colorant, steps, and the numbers of the lots from which they "
            + "came.", this::whatACanHas);
        term("Mixing. A can of a formula takes one of the stock of its base, and its steps from the canisters.",
            this::whatMixingTakes);
        term("Corrections. A correction adds steps of one colorant to a can; they are pumped likewise.",
            this::whatCorrectionsTake);
        term("It does not change formulas and carries.", this::correctionsAndFormulas);
    }

    private void threeAxes() {
        CountedDesk desk = Desks.readyToMix();
        desk.mix(0);
        int[] due = {12, 22, 31};
        for (int axis = 0; axis < 3; axis++) {
            same("axis " + axis, due[axis], desk.colour(0, axis));
        }
        failsOutside(0, 2, BAD_ARGUMENT, axis -> desk.colour(0, axis));
    }

    private void eightColorants() {
        CountedDesk desk = new CountedDesk();
        for (int i = 0; i < 8; i++) {
            fails("no colorant " + i + " yet", NO_INDEX, () -> desk.colorant(desk.account(0), 0));
            same("number", i, desk.addColorant(i, 0, 0));
            same("value", i, desk.colorant(i, 0));
        }
        fails("a ninth", BAD_STATE, () -> desk.addColorant(0, 0, 0));
        fails("there is no colorant 8", NO_INDEX, () -> desk.colorant(8, 0));
        same("eight", 8, desk.account(0));
    }

    private void colorantValues() {
        CountedDesk desk = new CountedDesk();
        failsOutside(0, 9, BAD_ARGUMENT, value -> desk.addColorant(value, 0, 9));
        failsOutside(0, 9, BAD_ARGUMENT, value -> desk.addColorant(0, value, 9));
        failsOutside(0, 9, BAD_ARGUMENT, value -> desk.addColorant(0, 9, value));
        same("the least", 0, desk.addColorant(0, 0, 0));
        same("the greatest", 1, desk.addColorant(9, 9, 9));
        for (int axis = 0; axis < 3; axis++) {
            same("the least on " + axis, 0, desk.colorant(0, axis));
            same("the greatest on " + axis, 9, desk.colorant(1, axis));
        }
    }

    private void sixBases() {
        CountedDesk desk = new CountedDesk();
        for (int i = 0; i < 6; i++) {
            fails("no base " + i + " yet", NO_INDEX, () -> desk.base(desk.account(1), 0));
            same("number", i, desk.addBase(i, 0, 0, 0));
            same("value", i, desk.base(i, 0));
        }
        fails("a seventh", BAD_STATE, () -> desk.addBase(0, 0, 0, 0));
        fails("there is no base 6", NO_INDEX, () -> desk.base(6, 0));
        same("six", 6, desk.account(1));
    }

    private void baseValues() {
        CountedDesk desk = new CountedDesk();
        failsOutside(0, 99, BAD_ARGUMENT, value -> desk.addBase(value, 0, 99, 9));
        failsOutside(0, 99, BAD_ARGUMENT, value -> desk.addBase(0, value, 99, 9));
        failsOutside(0, 99, BAD_ARGUMENT, value -> desk.addBase(0, 99, value, 9));
        same("the least", 0, desk.addBase(0, 0, 0, 9));
        same("the greatest", 1, desk.addBase(99, 99, 99, 9));
        for (int axis = 0; axis < 3; axis++) {
            same("the least on " + axis, 0, desk.base(0, axis));
            same("the greatest on " + axis, 99, desk.base(1, axis));
        }
    }

    private void limits() {
        CountedDesk desk = new CountedDesk();
        failsOutside(0, 200, BAD_ARGUMENT, limit -> desk.addBase(0, 0, 0, limit));
        same("the least", 0, desk.addBase(1, 1, 1, 0));
        same("the greatest", 1, desk.addBase(1, 1, 1, 200));
        same("the least limit", 0, desk.base(0, 3));
        same("the greatest limit", 200, desk.base(1, 3));
    }

    private void stocks() {
        CountedDesk desk = new CountedDesk();
        desk.addBase(1, 1, 1, 1);
        same("at first", 0, desk.base(0, 4));
        failsOutside(0, 99, BAD_ARGUMENT, stock -> desk.setStock(0, stock));
        desk.setStock(0, 99);
        same("the greatest", 99, desk.base(0, 4));
        desk.setStock(0, 0);
        same("the least", 0, desk.base(0, 4));
        desk.addBase(1, 1, 1, 1);
        same("of a later one at first", 0, desk.base(1, 4));
    }

    private void coloursOfCans() {
        CountedDesk desk = new CountedDesk();
        for (int i = 0; i < 8; i++) {
            desk.addColorant(9, 0, i);
            desk.refill(i, 0, 25);
        }
        desk.addBase(99, 0, 7, 200);
        desk.setStock(0, 2);
        Desks.formula(desk, "b0:0=0");
        Desks.formula(desk, "b0:0=2500,1=2500,2=2500,3=2500,4=2500,5=2500");
        desk.setAmount(1, 6, 2500);
        desk.setAmount(1, 7, 2500);
        desk.mix(0);
        desk.mix(1);
        int[][] due = {{99, 0, 7}, {1899, 0, 707}};
        for (int axis = 0; axis < 3; axis++) {
            same("without steps on " + axis, due[0][axis], desk.colour(0, axis));
            same("with all the steps on " + axis, due[1][axis], desk.colour(1, axis));
        }
    }

    private void canistersApart() {
        CountedDesk desk = new CountedDesk();
        desk.addColorant(0, 0, 0);
        desk.refill(0, 1, 10);
        desk.addColorant(0, 0, 0);
        same("a new one has no steps", 0, desk.colorant(1, 3));
        same("a new one has no lots", 0, desk.colorant(1, 4));
        fails("not even a first one", NO_ELEMENT, () -> desk.lot(1, 0, 0));
        desk.refill(1, 1, 20);
        same("the steps of 0", 10, desk.colorant(0, 3));
        same("the steps of 1", 20, desk.colorant(1, 3));
        desk.recall(1, 1);
        same("a recall from 1 leaves 0", 1, desk.colorant(0, 4));
    }

    private void lotNumbers() {
        CountedDesk desk = new CountedDesk();
        desk.addColorant(0, 0, 0);
        failsOutside(0, 99, BAD_ARGUMENT, lot -> desk.refill(0, lot, 1));
        desk.refill(0, 99, 1);
        desk.refill(0, 0, 2);
        same("the greatest", 99, desk.lot(0, 0, 0));
        same("the least", 0, desk.lot(0, 1, 0));
        same("steps of the greatest", 1, desk.lot(0, 0, 1));
        same("steps of the least", 2, desk.lot(0, 1, 1));
    }

    private void refillsBehind() {
        CountedDesk desk = new CountedDesk();
        desk.addColorant(0, 0, 0);
        int[] numbers = {7, 9, 7, 7};
        for (int i = 0; i < 4; i++) {
            desk.refill(0, numbers[i], i + 1);
            same("lots", i + 1, desk.colorant(0, 4));
        }
        for (int i = 0; i < 4; i++) {
            same("number at " + i, numbers[i], desk.lot(0, i, 0));
            same("steps at " + i, i + 1, desk.lot(0, i, 1));
        }
    }

    private void twelveLots() {
        CountedDesk desk = Desks.withAnEmptyCan(1, 200);
        for (int i = 1; i < 12; i++) {
            desk.refill(0, i, 500);
        }
        same("twelve lots", 12, desk.colorant(0, 4));
        same("all their steps", 5600, desk.colorant(0, 3));
        isRefused(2, desk, () -> desk.refill(0, 50, 1));
        same("still twelve", 12, desk.colorant(0, 4));
        desk.correct(0, 0, 50);
        isRefused(2, desk, () -> desk.refill(0, 50, 1));
        desk.correct(0, 0, 50);
        same("one was used up", 11, desk.colorant(0, 4));
        desk.refill(0, 50, 1);
        same("twelve again", 50, desk.lot(0, 11, 0));
        isRefused(2, desk, () -> desk.refill(0, 50, 1));
    }

    private void firstLotFirst() {
        CountedDesk desk = Desks.withAnEmptyCan(1, 200);
        desk.recall(0, 0);
        for (int i = 1; i <= 4; i++) {
            desk.refill(0, 10 * i, i + 1);
        }
        desk.correct(0, 0, 1);
        same("one is left of the first lot", 1, desk.lot(0, 0, 1));
        same("none comes from the second", false, desk.hasLot(0, 0, 20));
        desk.correct(0, 0, 1);
        same("the first lot goes", 20, desk.lot(0, 0, 0));
        same("the next one is whole", 3, desk.lot(0, 0, 1));
        desk.correct(0, 0, 8);
        same("two lots at once go", 1, desk.colorant(0, 4));
        same("the last one follows", 40, desk.lot(0, 0, 0));
        same("with what is left", 4, desk.lot(0, 0, 1));
        desk.correct(0, 0, 4);
        same("the last one goes, too", 0, desk.colorant(0, 4));
        same("all are in the can", "b0,0=14:10:20:30:40+14", Desks.label(desk, 0));
    }

    private void today() {
        CountedDesk desk = new CountedDesk();
        same("at first", 0, desk.account(12));
        for (int i = 1; i <= 4; i++) {
            desk.pass(99);
            same("later", 99 * i, desk.account(12));
        }
        fails("day 401", BAD_ARGUMENT, () -> desk.pass(5));
        desk.pass(3);
        fails("day 401, from 399", BAD_ARGUMENT, () -> desk.pass(2));
        desk.pass(1);
        same("the last day", 400, desk.account(12));
        fails("a day more", BAD_ARGUMENT, () -> desk.pass(1));
        same("still the last day", 400, desk.account(12));
    }

    private void lives() {
        CountedDesk desk = new CountedDesk();
        desk.addColorant(0, 0, 0);
        same("at first", 60, desk.colorant(0, 9));
        failsOutside(1, 99, BAD_ARGUMENT, life -> desk.setLife(0, life));
        desk.setLife(0, 1);
        same("the least", 1, desk.colorant(0, 9));
        desk.setLife(0, 99);
        same("the greatest", 99, desk.colorant(0, 9));
        desk.addColorant(0, 0, 0);
        same("of a later one at first", 60, desk.colorant(1, 9));
    }

    private void keepsUpTo() {
        CountedDesk desk = new CountedDesk();
        desk.addColorant(0, 0, 0);
        desk.addColorant(0, 0, 0);
        desk.setLife(1, 99);
        desk.pass(7);
        desk.refill(0, 1, 1);
        desk.setLife(0, 1);
        desk.refill(0, 2, 1);
        desk.refill(1, 3, 1);
        desk.setLife(0, 30);
        same("at first", 67, desk.lot(0, 0, 2));
        same("with the least life", 8, desk.lot(0, 1, 2));
        same("with the greatest life", 106, desk.lot(1, 0, 2));
        for (int i = 0; i < 4; i++) {
            desk.pass(i == 0 ? 96 : 99);
        }
        desk.refill(1, 4, 1);
        same("behind the last day", 499, desk.lot(1, 0, 2));
        lotsThatMoveUp();
    }

    private void lotsThatMoveUp() {
        CountedDesk desk = Desks.withAnEmptyCan(1, 200);
        for (int i = 1; i < 4; i++) {
            desk.pass(1);
            desk.refill(0, i, 1);
        }
        desk.correct(0, 0, 50);
        desk.correct(0, 0, 50);
        for (int i = 1; i < 4; i++) {
            same("behind one that was used up, " + i, 60 + i, desk.lot(0, i - 1, 2));
        }
        desk.recall(0, 2);
        same("before one that was recalled", 61, desk.lot(0, 0, 2));
        same("behind one that was recalled", 63, desk.lot(0, 1, 2));
        desk.pass(59);
        same("behind one that was wasted", 63, desk.lot(0, 0, 2));
        same("it keeps", 0, desk.pass(1));
        same("up to its last day", 1, desk.pass(1));
    }

    private void aDayGoesBy() {
        CountedDesk desk = new CountedDesk();
        desk.addColorant(0, 0, 0);
        desk.addColorant(0, 0, 0);
        desk.setLife(0, 2);
        desk.setLife(1, 1);
        desk.refill(0, 1, 10);
        desk.refill(1, 2, 20);
        same("day 1: both keep", 0, desk.pass(1));
        desk.refill(0, 3, 40);
        same("day 2: one goes", 20, desk.pass(1));
        same("day 3: the other goes", 10, desk.pass(1));
        same("its second lot keeps", 3, desk.lot(0, 0, 0));
        same("day 3", 3, desk.account(12));
        same("wasted of 0", 10, desk.colorant(0, 8));
        same("wasted of 1", 20, desk.colorant(1, 8));
        same("day 4: the second one goes", 40, desk.pass(1));
        same("nothing is left", 0, desk.account(4));
    }

    private void tenFormulas() {
        CountedDesk desk = Desks.stocked(1, 9);
        for (int i = 0; i < 10; i++) {
            fails("no formula " + i + " yet", NO_INDEX, () -> desk.baseOf(desk.account(2)));
            same("number", i, Desks.formula(desk, "b0:0=" + i));
        }
        Desks.type(desk, "b0:0=1");
        isRefused(2, desk, desk::readFormula);
        same("ten", 10, desk.account(2));
        fails("there is no formula 10", NO_INDEX, () -> desk.baseOf(10));
        same("the last one", 9, desk.amount(9, 0, false));
    }

    private void amounts() {
        CountedDesk desk = Desks.stocked(3, 200);
        Desks.formula(desk, "b0:1=9999,2=0");
        same("at first", 0, desk.amount(0, 0, false));
        same("the greatest of a text", 9999, desk.amount(0, 1, false));
        same("the least of a text", 0, desk.amount(0, 2, false));
        failsOutside(0, 9999, BAD_ARGUMENT, amount -> desk.setAmount(0, 0, amount));
        desk.setAmount(0, 0, 9999);
        desk.setAmount(0, 1, 0);
        same("the greatest", 9999, desk.amount(0, 0, false));
        same("the least", 0, desk.amount(0, 1, false));
        desk.mix(0);
        same("in hundredths", 99, desk.steps(0, 0));
    }

    private void carriesAtFirst() {
        CountedDesk desk = Desks.stocked(2, 200);
        Desks.formula(desk, "b0:0=9999");
        same("with an amount", 0, desk.amount(0, 0, true));
        same("without one", 0, desk.amount(0, 1, true));
        desk.mix(0);
        same("in hundredths", 99, desk.amount(0, 0, true));
        same("still none", 0, desk.amount(0, 1, true));
        Desks.formula(desk, "b0:0=9999");
        same("of a later one at first", 0, desk.amount(1, 0, true));
    }

    private void roundedDown() {
        CountedDesk desk = Desks.stocked(5, 200);
        desk.refill(1, 0, 500);
        Desks.formula(desk, "b0:0=99,1=9999,2=50,3=100,4=1");
        int[][] due = {{0, 99, 0, 1, 0}, {1, 100, 1, 1, 0}, {1, 100, 0, 1, 0}};
        int[][] dueCarries = {{99, 99, 50, 0, 1}, {98, 98, 0, 0, 2}, {97, 97, 50, 0, 3}};
        for (int can = 0; can < 3; can++) {
            desk.mix(0);
            for (int i = 0; i < 5; i++) {
                same("steps of " + i + " in can " + can, due[can][i], desk.steps(can, i));
                same("carry of " + i + " behind can " + can, dueCarries[can][i], desk.amount(0, i, true));
            }
        }
    }

    private void amountSet() {
        CountedDesk desk = Desks.stocked(2, 200);
        Desks.formula(desk, "b0:0=99,1=98");
        Desks.formula(desk, "b0:0=97");
        desk.mix(0);
        desk.mix(1);
        desk.setAmount(0, 0, 1);
        same("its carry", 0, desk.amount(0, 0, true));
        same("that of another colorant", 98, desk.amount(0, 1, true));
        same("that of another formula", 97, desk.amount(1, 0, true));
        desk.mix(0);
        same("it is not carried", 0, desk.steps(2, 0));
    }

    private void twentyCans() {
        CountedDesk desk = Desks.stocked(1, 200);
        Desks.formula(desk, "b0:0=100");
        for (int i = 0; i < 20; i++) {
            fails("no can " + i + " yet", NO_INDEX, () -> desk.can(desk.account(3), 0));
            same("number", i, desk.mix(0));
        }
        isRefused(2, desk, () -> desk.mix(0));
        same("twenty", 20, desk.account(3));
        fails("there is no can 20", NO_INDEX, () -> desk.can(20, 0));
        same("the last one", 1, desk.steps(19, 0));
    }

    private void whatACanHas() {
        CountedDesk desk = Desks.stocked(3, 200);
        desk.addBase(0, 0, 0, 200);
        desk.setStock(1, 1);
        Desks.formula(desk, "b0:0=0");
        Desks.formula(desk, "b1:0=300,2=99");
        desk.mix(1);
        same("a formula", 1, desk.can(0, 0));
        same("a base", 1, desk.can(0, 1));
        same("steps of 0", 3, desk.steps(0, 0));
        same("steps of 1, of which there is no amount", 0, desk.steps(0, 1));
        same("steps of 2, of which there is less than one", 0, desk.steps(0, 2));
        same("a lot of 0", true, desk.hasLot(0, 0, 0));
        same("none of 1", false, desk.hasLot(0, 1, 1));
        same("none of 2", false, desk.hasLot(0, 2, 2));
        desk.setAmount(1, 0, 500);
        desk.recall(0, 0);
        same("they stay", 3, desk.steps(0, 0));
        same("the lot, too", true, desk.hasLot(0, 0, 0));
    }

    private void whatMixingTakes() {
        CountedDesk desk = Desks.stocked(2, 200);
        desk.addBase(0, 0, 0, 200);
        desk.setStock(1, 1);
        Desks.formula(desk, "b1:0=9999,1=9900");
        desk.mix(0);
        same("the last of the stock", 0, desk.base(1, 4));
        same("none of another base", 99, desk.base(0, 4));
        same("what is left of 0", 1, desk.colorant(0, 3));
        same("what is left of 1", 1, desk.colorant(1, 3));
        isRefused(3, desk, () -> desk.mix(0));
        same("a refused one takes none", 0, desk.base(1, 4));
        same("and no steps", 2, desk.account(4));
    }

    private void whatCorrectionsTake() {
        CountedDesk desk = Desks.withAnEmptyCan(2, 200);
        desk.refill(1, 7, 1);
        desk.correct(0, 1, 50);
        desk.correct(0, 1, 50);
        same("the first lot is used up", 7, desk.lot(1, 0, 0));
        desk.correct(0, 1, 1);
        same("all of the canister", 0, desk.colorant(1, 4));
        same("they are in the can", 101, desk.steps(0, 1));
        same("of one colorant", 0, desk.steps(0, 0));
        same("and pumped", 101, desk.colorant(1, 6));
        same("the other canister stays", 100, desk.colorant(0, 3));
        same("the stock stays", 98, desk.base(0, 4));
    }

    private void correctionsAndFormulas() {
        CountedDesk desk = Desks.stocked(1, 200);
        Desks.formula(desk, "b0:0=150");
        desk.mix(0);
        desk.correct(0, 0, 1);
        desk.correct(0, 0, 50);
        same("the amount", 150, desk.amount(0, 0, false));
        same("the carry", 50, desk.amount(0, 0, true));
        same("the formula of the can", 0, desk.can(0, 0));
        desk.mix(0);
        same("the next can", 2, desk.steps(1, 0));
    }
}

/** The terms from the reasons to the end, but for what they say of changes. */
final class RefusalBoundaries extends Boundaries {
    RefusalBoundaries(Sentences sentences, Check check) {
        super(sentences, check);
    }

    @Override
    void tell() {
        reasons();
        doubts();
        doubtsToo();
    }

    private void term(String words, Check.Call test) {
        holds("Terms", words, test);
    }

    private void reasons() {
        term("Reasons. Something is refused for the first of these reasons that applies", this::firstReason);
        term("1, there is no such base or colorant in a text", this::notThere);
        term("2, 10 formulas were made, 20 cans were mixed, or 12 lots are in the canister, respectively",
            this::tooMany);
        term("3, the stock of the base is 0", this::noStock);
        term("4, the steps in the can would be more than the limit of its base", this::overTheLimit);
        term("5, there are fewer steps in a canister than would be pumped from it.", this::fewerSteps);
        term("With reason 5, the lowest such colorant is kept, too.", this::lowestColorant);
    }

    private void doubts() {
        term("In doubt. A colorant that is made later has the amount 0 in all formulas and 0 steps in all cans.",
            this::laterColorants);
        term("What is asked about mixing or the least correction changes nothing, and keeps no reason.",
            this::askingKeepsNothing);
        term("A mix that is refused leaves the carries as they are.", this::refusedMixes);
    }

    private void doubtsToo() {
        term("In doubt, too. A lot that is used up goes at once", this::usedUpAtOnce);
        term("one that keeps up to a day goes when today becomes the next one.", this::goesOnTheNextDay);
        term("Setting an amount to what it is makes its carry 0, too.", this::sameAmount);
        term("A canister with 12 lots takes no refill, whatever its number is.", this::anyNumberIsRefused);
        term("The fault position behind a text that is refused is -1.", this::faultPositionOfRefusedTexts);
        term("Cans that could be mixed are counted with carries", this::possibleWithCarries);
        term("with 20 cans ever.", this::possibleWithTwentyCans);
        term("All steps in a can count those of corrections, for the closest formula, too.", this::allStepsCount);
        term("Colours to be reached can be any ints", this::anyColours);
        term("differences are those of the numbers as such.", this::differencesDoNotWrap);
        term("Steps of corrections count for lots.", this::lotsOfCorrections);
        term("A can without steps has the label of its base alone.", this::labelWithoutSteps);
    }

    private void firstReason() {
        CountedDesk desk = Desks.stocked(1, 3);
        desk.recall(0, 0);
        for (int i = 0; i < 10; i++) {
            Desks.formula(desk, "b0:0=" + 400 * (i % 2));
        }
        Desks.type(desk, "b0:1=0");
        isRefused(1, desk, desk::readFormula);
        Desks.type(desk, "b1:0=0");
        isRefused(1, desk, desk::readFormula);
        desk.setStock(0, 0);
        isRefused(3, desk, () -> desk.mix(1));
        desk.setStock(0, 20);
        isRefused(4, desk, () -> desk.mix(1));
        desk.setAmount(1, 0, 300);
        isRefused(5, desk, () -> desk.mix(1));
        for (int i = 0; i < 20; i++) {
            desk.mix(0);
        }
        isRefused(2, desk, () -> desk.mix(1));
        desk.setAmount(1, 0, 400);
        isRefused(2, desk, () -> desk.mix(1));
        same("the stock is 0, too", 0, desk.base(0, 4));
        isRefused(4, desk, () -> desk.correct(0, 0, 4));
        isRefused(5, desk, () -> desk.correct(0, 0, 3));
    }

    private void notThere() {
        CountedDesk empty = new CountedDesk();
        Desks.type(empty, "b0:0=0");
        isRefused(1, empty, empty::readFormula);
        empty.addBase(0, 0, 0, 0);
        Desks.type(empty, "b0:0=0");
        isRefused(1, empty, empty::readFormula);
        empty.addColorant(0, 0, 0);
        same("both are there", 0, Desks.formula(empty, "b0:0=0"));
        CountedDesk desk = Desks.withTwoColorants();
        desk.addBase(0, 0, 0, 0);
        String[] missing = {"b2:0=1", "b9:0=1", "b0:2=1", "b0:9=1", "b0:2=0", "b0:2=1,0=1", "b0:0=1,2=1", "b0:2=1,2=0"};
        for (String text : missing) {
            Desks.type(desk, text);
            isRefused(1, desk, desk::readFormula);
        }
        same("no formula was made", 0, desk.account(2));
        same("the last of each", 0, Desks.formula(desk, "b1:1=1"));
    }

    private void tooMany() {
        CountedDesk desk = Desks.stocked(2, 0);
        for (int i = 0; i < 9; i++) {
            Desks.formula(desk, "b0:0=0");
        }
        same("a tenth formula", 9, Desks.formula(desk, "b0:0=0"));
        Desks.type(desk, "b0:0=0");
        isRefused(2, desk, desk::readFormula);
        for (int i = 0; i < 19; i++) {
            desk.mix(i % 10);
        }
        same("a twentieth can", 19, desk.mix(0));
        isRefused(2, desk, () -> desk.mix(0));
        for (int i = 0; i < 10; i++) {
            desk.refill(0, i, 1);
        }
        same("a twelfth lot", 111, desk.refill(0, 11, 1));
        isRefused(2, desk, () -> desk.refill(0, 12, 1));
        same("another canister has room", 101, desk.refill(1, 12, 1));
    }

    private void noStock() {
        CountedDesk desk = Desks.stocked(1, 9);
        Desks.formula(desk, "b0:0=100");
        desk.setStock(0, 0);
        isRefused(3, desk, () -> desk.mix(0));
        desk.setStock(0, 1);
        same("with a stock of 1", 0, desk.mix(0));
        isRefused(3, desk, () -> desk.mix(0));
        same("no can was mixed", 1, desk.account(3));
        same("a correction needs no stock", 2, desk.correct(0, 0, 1));
    }

    private void overTheLimit() {
        CountedDesk desk = Desks.stocked(3, 7);
        Desks.formula(desk, "b0:0=399,1=399,2=199");
        Desks.formula(desk, "b0:0=400,1=399,2=199");
        same("just the limit", 0, desk.mix(0));
        isRefused(4, desk, () -> desk.mix(1));
        desk.setAmount(1, 0, 300);
        isRefused(4, desk, () -> desk.correct(0, 0, 1));
        same("not corrected", 7, desk.can(0, 2));
        desk.setAmount(1, 1, 100);
        same("less than the limit", 1, desk.mix(1));
        isRefused(4, desk, () -> desk.correct(1, 0, 3));
        same("corrected to the limit", 7, desk.correct(1, 0, 2));
        isRefused(4, desk, () -> desk.correct(1, 0, 1));
        isRefused(4, desk, () -> desk.mix(0));
        same("carries count", 99 + 99 + 99, desk.amount(0, 0, true) + desk.amount(0, 1, true) + desk.amount(0, 2, true));
        CountedDesk narrow = Desks.withAnEmptyCan(1, 0);
        isRefused(4, narrow, () -> narrow.correct(0, 0, 1));
        narrow.setAmount(0, 0, 99);
        same("no step", 1, narrow.mix(0));
        isRefused(4, narrow, () -> narrow.mix(0));
    }

    private void fewerSteps() {
        CountedDesk desk = Desks.stocked(1, 200);
        Desks.formula(desk, "b0:0=300");
        desk.recall(0, 0);
        isRefused(5, desk, () -> desk.mix(0));
        desk.refill(0, 1, 1);
        desk.refill(0, 2, 1);
        isRefused(5, desk, () -> desk.mix(0));
        same("nothing was pumped", 0, desk.colorant(0, 6));
        desk.refill(0, 3, 1);
        same("just enough, of several lots", 0, desk.mix(0));
        isRefused(5, desk, () -> desk.correct(0, 0, 1));
        desk.refill(0, 4, 2);
        isRefused(5, desk, () -> desk.correct(0, 0, 3));
        same("not corrected", 0, desk.can(0, 3));
        same("just enough", 5, desk.correct(0, 0, 2));
        desk.setAmount(0, 0, 99);
        same("no step needs none", 1, desk.mix(0));
    }

    private void lowestColorant() {
        CountedDesk desk = Desks.stocked(8, 200);
        Desks.formula(desk, "b0:2=200,5=200,7=200");
        int[] empty = {0, 2, 5, 7};
        for (int i : empty) {
            desk.recall(i, i);
        }
        isRefused(5, desk, () -> desk.mix(0));
        same("of three", 2, desk.lacking());
        desk.refill(2, 0, 1);
        isRefused(5, desk, () -> desk.mix(0));
        same("still too few", 2, desk.lacking());
        desk.refill(2, 0, 1);
        isRefused(5, desk, () -> desk.mix(0));
        same("of two", 5, desk.lacking());
        desk.refill(5, 0, 2);
        isRefused(5, desk, () -> desk.mix(0));
        same("the last one", 7, desk.lacking());
        desk.refill(7, 0, 2);
        desk.mix(0);
        isRefused(5, desk, () -> desk.correct(0, 5, 1));
        same("the one of a correction", 5, desk.lacking());
        isRefused(5, desk, () -> desk.correct(0, 0, 1));
        same("the first one", 0, desk.lacking());
    }

    private void laterColorants() {
        CountedDesk desk = Desks.withAnEmptyCan(1, 200);
        desk.addColorant(1, 1, 1);
        desk.refill(1, 5, 9);
        desk.setAmount(0, 1, 250);
        desk.mix(0);
        for (int i = 0; i < 4; i++) {
            desk.undo();
        }
        desk.addColorant(1, 1, 1);
        same("the amount", 0, desk.amount(0, 1, false));
        same("the carry", 0, desk.amount(0, 1, true));
        same("the steps", 0, desk.steps(0, 1));
        same("no lots", false, desk.hasLot(0, 1, 5));
        same("the canister", 0, desk.colorant(1, 4));
        same("a can that is mixed then", 1, desk.mix(0));
        same("its steps", 0, desk.steps(1, 1));
        same("its label", "b0", Desks.label(desk, 1));
        for (int i = 2; i < 8; i++) {
            desk.addColorant(9, 9, 9);
            same("the amount of " + i, 0, desk.amount(0, i, false));
            same("the steps of " + i, 0, desk.steps(0, i));
        }
        same("the colour", 0, desk.colour(0, 0));
    }

    private void askingKeepsNothing() {
        CountedDesk desk = Desks.withAnEmptyCan(1, 3);
        Desks.formula(desk, "b0:0=333");
        String before = Desks.dump(desk);
        same("possible", 3, desk.possible(1));
        fails("not reached", NO_ELEMENT, () -> desk.least(0, 1, 0, 0, 0, -1));
        same("reached", 0, desk.least(0, 0, 0, 0, 0, 0));
        fails("no reason is kept", NO_ELEMENT, desk::refusal);
        same("all is as before", before, Desks.dump(desk));
        same("it is no change", 6, desk.undo());
        isRefused(5, desk, () -> {
            desk.recall(0, 0);
            desk.correct(0, 0, 1);
        });
        desk.setStock(0, 0);
        same("not possible", 0, desk.possible(0));
        same("the reason that was kept stays", 5, desk.refusal());
        same("its colorant, too", 0, desk.lacking());
        askingLeavesAll();
    }

    private void askingLeavesAll() {
        CountedDesk desk = Desks.holding(2, 1, 1, 1);
        String before = Desks.dump(desk);
        same("two steps", 2, desk.least(0, 5, 10, 15, 0, -1));
        same("the same two steps", 2, desk.least(0, 5, 10, 15, 0, 0));
        same("nineteen cans", 19, desk.possible(0));
        same("the same nineteen cans", 19, desk.possible(0));
        same("all is as before", before, Desks.dump(desk));
    }

    private void refusedMixes() {
        CountedDesk desk = Desks.stocked(2, 200);
        Desks.formula(desk, "b0:0=199,1=98");
        desk.mix(0);
        desk.setStock(0, 0);
        isRefused(3, desk, () -> desk.mix(0));
        carriesAre(99, 98, desk);
        desk.setStock(0, 99);
        desk.recall(1, 1);
        isRefused(5, desk, () -> desk.mix(0));
        carriesAre(99, 98, desk);
        Desks.formula(desk, "b0:0=0");
        for (int i = 1; i < 20; i++) {
            desk.mix(1);
        }
        isRefused(2, desk, () -> desk.mix(0));
        carriesAre(99, 98, desk);
        CountedDesk narrow = Desks.stocked(2, 1);
        Desks.formula(narrow, "b0:0=199,1=98");
        narrow.mix(0);
        isRefused(4, narrow, () -> narrow.mix(0));
        carriesAre(99, 98, narrow);
    }

    private void carriesAre(int first, int second, CountedDesk desk) {
        same("carry of 0", first, desk.amount(0, 0, true));
        same("carry of 1", second, desk.amount(0, 1, true));
    }

    private void usedUpAtOnce() {
        CountedDesk desk = Desks.withAnEmptyCan(1, 200);
        desk.recall(0, 0);
        for (int i = 0; i < 12; i++) {
            desk.refill(0, i, 2);
        }
        desk.correct(0, 0, 1);
        same("one step is left", 12, desk.colorant(0, 4));
        desk.correct(0, 0, 1);
        same("none is left", 11, desk.colorant(0, 4));
        same("the next one is the first", 1, desk.lot(0, 0, 0));
        same("so there is room", 24, desk.refill(0, 12, 2));
        desk.setAmount(0, 0, 200);
        desk.mix(0);
        same("by mixing, too", 11, desk.colorant(0, 4));
        fails("no lot without steps behind the others", NO_ELEMENT, () -> desk.lot(0, 11, 1));
    }

    private void goesOnTheNextDay() {
        CountedDesk desk = new CountedDesk();
        desk.addColorant(0, 0, 0);
        desk.setLife(0, 1);
        desk.refill(0, 1, 4);
        same("on its last day", 0, desk.pass(1));
        same("it is there", 4, desk.colorant(0, 3));
        desk.refill(0, 2, 5);
        same("the next day", 4, desk.pass(1));
        same("the other one is there", 5, desk.colorant(0, 3));
        same("the day after, and more", 5, desk.pass(99));
        desk.setLife(0, 99);
        desk.refill(0, 3, 6);
        same("99 days", 0, desk.pass(99));
        same("one more", 6, desk.pass(1));
    }

    private void sameAmount() {
        CountedDesk desk = Desks.stocked(1, 200);
        Desks.formula(desk, "b0:0=150");
        desk.mix(0);
        same("the carry", 50, desk.amount(0, 0, true));
        same("the amount before", 150, desk.setAmount(0, 0, 150));
        same("no carry", 0, desk.amount(0, 0, true));
        desk.mix(0);
        same("one step again", 1, desk.steps(1, 0));
    }

    private void anyNumberIsRefused() {
        CountedDesk desk = new CountedDesk();
        desk.addColorant(0, 0, 0);
        for (int i = 0; i < 12; i++) {
            desk.refill(0, i, 1);
        }
        int[] numbers = {0, 5, 11, 12, 99};
        for (int number : numbers) {
            isRefused(2, desk, () -> desk.refill(0, number, 1));
        }
        same("twelve steps", 12, desk.colorant(0, 3));
        same("twelve lots", 12, desk.colorant(0, 4));
        same("twelve were refilled", 12, desk.colorant(0, 5));
    }

    private void faultPositionOfRefusedTexts() {
        CountedDesk desk = Desks.stocked(1, 1);
        String[] refused = {"b1:0=0", "b0:1=0"};
        for (String text : refused) {
            fails("an empty text", BAD_ARGUMENT, desk::readFormula);
            same("its fault position", 0, desk.faultPosition());
            Desks.type(desk, text);
            isRefused(1, desk, desk::readFormula);
            same("behind " + text, -1, desk.faultPosition());
        }
        for (int i = 0; i < 10; i++) {
            Desks.formula(desk, "b0:0=0");
        }
        fails("an empty text", BAD_ARGUMENT, desk::readFormula);
        Desks.type(desk, "b0:0=0");
        isRefused(2, desk, desk::readFormula);
        same("behind the eleventh", -1, desk.faultPosition());
    }

    private void possibleWithCarries() {
        CountedDesk desk = Desks.stocked(1, 2);
        Desks.formula(desk, "b0:0=150");
        desk.recall(0, 0);
        desk.refill(0, 0, 7);
        same("1, 2, 1, 2, 1 steps", 5, desk.possible(0));
        desk.mix(0);
        same("2, 1, 2, 1 steps", 4, desk.possible(0));
        desk.setAmount(0, 0, 150);
        same("1, 2, 1, 2 steps", 4, desk.possible(0));
        desk.setAmount(0, 0, 299);
        same("the second one would have 3", 1, desk.possible(0));
        desk.setAmount(0, 0, 201);
        same("2, 2, 2 steps", 3, desk.possible(0));
        desk.recall(0, 0);
        desk.setAmount(0, 0, 33);
        same("three without a step", 3, desk.possible(0));
        desk.mix(0);
        same("two more without a step", 2, desk.possible(0));
    }

    private void possibleWithTwentyCans() {
        CountedDesk desk = Desks.withAnEmptyCan(1, 2);
        same("19 more", 19, desk.possible(0));
        desk.setStock(0, 18);
        same("fewer in the stock", 18, desk.possible(0));
        desk.setStock(0, 99);
        for (int i = 1; i < 20; i++) {
            desk.mix(0);
            same("fewer", 19 - i, desk.possible(0));
        }
        desk.setStock(0, 0);
        same("none at all", 0, desk.possible(0));
    }

    private void allStepsCount() {
        CountedDesk desk = Desks.withAnEmptyCan(2, 200);
        Desks.formula(desk, "b0:1=499");
        Desks.formula(desk, "b0:1=501,0=1000");
        same("closest to no steps", 0, desk.closest(0));
        same("all steps then", 5, desk.correct(0, 1, 5));
        same("closest to five steps", 1, desk.closest(0));
        same("all steps then", 15, desk.correct(0, 0, 10));
        same("closest to fifteen", 2, desk.closest(0));
        same("all steps in it", 15, desk.can(0, 2));
        same("all steps in cans", 15, desk.account(5));
        same("its room", 185, desk.can(0, 5));
        same("the mean", 15.0, desk.meanSteps(0));
    }

    private void anyColours() {
        CountedDesk desk = Desks.readyToMix();
        desk.mix(0);
        int[] far = {Integer.MIN_VALUE, Integer.MAX_VALUE, Integer.MIN_VALUE + 12, Integer.MAX_VALUE - 87, -100, 1 << 16,
            1 << 8, -(1 << 31) + 111, 1 << 30};
        for (int value : far) {
            fails("axis 0: " + value, NO_ELEMENT, () -> desk.least(0, value, 22, 31, 99, -1));
            fails("axis 1: " + value, NO_ELEMENT, () -> desk.least(0, 12, value, 31, 99, -1));
            fails("axis 2: " + value, NO_ELEMENT, () -> desk.least(0, 12, 22, value, 99, -1));
            fails("all axes: " + value, NO_ELEMENT, () -> desk.least(0, value, value, value, 99, 0));
        }
        same("below 0, yet near enough", 0, desk.least(0, -87, -77, -68, 99, -1));
        fails("below 0, too far", NO_ELEMENT, () -> desk.least(0, -88, -77, -68, 99, -1));
        same("above 99, yet near enough", 0, desk.least(0, 111, 121, 130, 99, -1));
    }

    /** At the greatest colour a wrapped difference to the least ints would be small. */
    private void differencesDoNotWrap() {
        CountedDesk desk = new CountedDesk();
        desk.addColorant(9, 9, 9);
        desk.refill(0, 0, 500);
        desk.addBase(99, 99, 99, 200);
        desk.setStock(0, 1);
        Desks.formula(desk, "b0:0=9999");
        desk.mix(0);
        desk.correct(0, 0, 50);
        desk.correct(0, 0, 45);
        same("the colour", 1845, desk.colour(0, 0));
        int[] far = {Integer.MIN_VALUE, Integer.MIN_VALUE + 1845, Integer.MIN_VALUE + 1746, Integer.MAX_VALUE,
            Integer.MIN_VALUE + 1944, -1845, Integer.MAX_VALUE - 99, 1845 + 65536, 1845 - 65536, 1845 + 256};
        for (int value : far) {
            fails("axis 0: " + value, NO_ELEMENT, () -> desk.least(0, value, 1845, 1845, 99, -1));
            fails("axis 1: " + value, NO_ELEMENT, () -> desk.least(0, 1845, value, 1845, 99, -1));
            fails("axis 2: " + value, NO_ELEMENT, () -> desk.least(0, 1845, 1845, value, 99, -1));
        }
        same("as it is", 0, desk.least(0, 1845, 1845, 1845, 0, -1));
        same("with six steps", 6, desk.least(0, 1899, 1899, 1899, 0, -1));
    }

    private void lotsOfCorrections() {
        CountedDesk desk = Desks.withAnEmptyCan(2, 200);
        same("none yet", false, desk.hasLot(0, 1, 1));
        desk.correct(0, 1, 1);
        same("the can has it", true, desk.hasLot(0, 1, 1));
        same("it is found", 0, desk.canWith(1, 1, 0));
        same("its formula is found", 1, desk.formulasWith(1, 1));
        same("it is in the label", "b0,1=1:1+1", Desks.label(desk, 0));
    }

    private void labelWithoutSteps() {
        CountedDesk desk = Desks.stocked(8, 200);
        desk.addBase(0, 0, 0, 0);
        desk.setStock(1, 1);
        Desks.formula(desk, "b1:0=0,7=99");
        desk.mix(0);
        same("the label", "b1", Desks.label(desk, 0));
        same("its length", 2, desk.labelLength(0));
        isRefused(4, desk, () -> desk.correct(0, 0, 1));
        same("a refused correction leaves it", "b1", Desks.label(desk, 0));
    }
}

/** Promises 1 to 11, sentence by sentence. */
final class ColorantsAndBasesBoundaries extends Boundaries {
    ColorantsAndBasesBoundaries(Sentences sentences, Check check) {
        super(sentences, check);
    }

    @Override
    void tell() {
        promise(1, "Creates a desk without colorants, bases, formulas and cans.", this::newDesk);
        addColorant();
        setLife();
        refill();
        recall();
        colorant();
        lot();
        pass();
        addBase();
        setStock();
        base();
    }

    private void addColorant() {
        namesNone("Promise 2", "Makes a colorant.");
        promise(2, "- `first`: its value on axis 0 - `second`: on axis 1 - `third`: on axis 2", () -> {
            CountedDesk desk = new CountedDesk();
            desk.addColorant(0, 9, 5);
            same("axis 0", 0, desk.colorant(0, 0));
            same("axis 1", 9, desk.colorant(0, 1));
            same("axis 2", 5, desk.colorant(0, 2));
        });
        promise(2, "Returns the number of the colorant.", this::colorantNumbers);
        throwsIf(2, BAD_ARGUMENT, "a value is out of range", () -> {
            CountedDesk desk = new CountedDesk();
            failsOutside(0, 9, BAD_ARGUMENT, value -> desk.addColorant(value, 1, 1));
            failsOutside(0, 9, BAD_ARGUMENT, value -> desk.addColorant(1, value, 1));
            failsOutside(0, 9, BAD_ARGUMENT, value -> desk.addColorant(1, 1, value));
            same("none was made", 0, desk.account(0));
        });
        throwsIf(2, BAD_STATE, "8 colorants were made", () -> {
            CountedDesk desk = Desks.holding(7, 0, 0, 0);
            same("the eighth", 7, desk.addColorant(0, 0, 0));
            fails("the ninth", BAD_STATE, () -> desk.addColorant(0, 0, 0));
            desk.undo();
            same("the eighth again", 7, desk.addColorant(0, 0, 0));
            fails("the ninth again", BAD_STATE, () -> desk.addColorant(0, 0, 0));
        });
    }

    private void setLife() {
        promise(3, "Sets the life of a colorant; lots that are there keep as before.", this::livesOfLots);
        promise(3, "Returns the life before.", () -> {
            CountedDesk desk = Desks.holding(2, 0, 0, 0);
            same("the first one", 60, desk.setLife(0, 1));
            same("the least one", 1, desk.setLife(0, 99));
            same("the greatest one", 99, desk.setLife(0, 99));
            same("the same one", 99, desk.setLife(0, 60));
            same("that of another colorant", 60, desk.setLife(1, 60));
        });
        throwsIf(3, NO_INDEX, "there is no such colorant", () -> noSuchColorant((d, c) -> d.setLife(c, 5)));
        throwsIf(3, BAD_ARGUMENT, "the life is out of range", () -> {
            CountedDesk desk = Desks.holding(1, 0, 0, 0);
            failsOutside(1, 99, BAD_ARGUMENT, life -> desk.setLife(0, life));
            same("the life stays", 60, desk.colorant(0, 9));
        });
    }

    private void refill() {
        namesNone("Promise 4", "Refills a canister.");
        promise(4, "- `steps`: the steps, 1 to 500", () -> {
            CountedDesk desk = Desks.holding(1, 0, 0, 0);
            desk.refill(0, 0, 1);
            desk.refill(0, 0, 500);
            same("the least", 1, desk.lot(0, 1, 1));
            same("the greatest", 500, desk.lot(0, 2, 1));
        });
        promise(4, "Returns the steps in the canister then.", () -> {
            CountedDesk desk = new CountedDesk();
            desk.addColorant(0, 0, 0);
            for (int i = 1; i <= 12; i++) {
                same("with " + i, 500 * i, desk.refill(0, i, 500));
            }
            desk.recall(0, 1);
            same("behind a recall", 5501, desk.refill(0, 1, 1));
        });
        throwsIf(4, NO_INDEX, "there is no such colorant", () -> noSuchColorant((d, c) -> d.refill(c, 5, 5)));
        throwsIf(4, BAD_ARGUMENT, "lot or steps is out of range", () -> {
            CountedDesk desk = Desks.holding(1, 0, 0, 0);
            failsOutside(0, 99, BAD_ARGUMENT, lot -> desk.refill(0, lot, 5));
            failsOutside(1, 500, BAD_ARGUMENT, steps -> desk.refill(0, 5, steps));
            same("nothing was refilled", 100, desk.colorant(0, 5));
        });
        throwsIf(4, REFUSED, "it is refused for reason 2; the reason is kept for refusal", this::refillRefused);
    }

    private void recall() {
        promise(5, "Recalls a lot: all steps of lots with this number go from the canister.", this::recallOfLots);
        promise(5, "Returns the steps that go.", () -> {
            CountedDesk desk = new CountedDesk();
            desk.addColorant(0, 0, 0);
            same("of an empty canister", 0, desk.recall(0, 0));
            for (int i = 0; i < 12; i++) {
                desk.refill(0, 99, 500);
            }
            same("of another number", 0, desk.recall(0, 98));
            same("of all lots", 6000, desk.recall(0, 99));
            same("of none any more", 0, desk.recall(0, 99));
        });
        throwsIf(5, NO_INDEX, "there is no such colorant", () -> noSuchColorant((d, c) -> d.recall(c, 5)));
        throwsIf(5, BAD_ARGUMENT, "lot is out of range", () -> {
            CountedDesk desk = Desks.holding(1, 0, 0, 0);
            failsOutside(0, 99, BAD_ARGUMENT, lot -> desk.recall(0, lot));
            same("the least number", 0, desk.recall(0, 0));
            same("the greatest number", 0, desk.recall(0, 99));
        });
    }

    private void colorant() {
        namesNone("Promise 6", "Returns a number of a colorant.", "Returns the number.");
        promise(6, "- `what`: 0 to 2 for its value on this axis, 3 for the steps in its canister, 4 for the lots there, "
            + "5 for all steps that were refilled, 6 for all that were pumped, 7 for all that were recalled, 8 for all "
            + "that were wasted, 9 for its life", this::numbersOfColorants);
        throwsIf(6, NO_INDEX, "there is no such colorant", () -> noSuchColorant((d, c) -> d.colorant(c, 0)));
        throwsIf(6, BAD_ARGUMENT, "what is not from 0 to 9", () -> {
            CountedDesk desk = Desks.holding(1, 0, 0, 0);
            failsOutside(0, 9, BAD_ARGUMENT, what -> desk.colorant(0, what));
            same("the first", 1, desk.colorant(0, 0));
            same("the last", 60, desk.colorant(0, 9));
        });
    }

    private void lot() {
        namesNone("Promise 7", "Returns a number of a lot in a canister.", "Returns the number.");
        promise(7, "- `index`: the index of the lot, from 0 for the first one", () -> {
            CountedDesk desk = withTwelveLots();
            for (int i = 0; i < 12; i++) {
                same("the lot at " + i, 50 - i, desk.lot(0, i, 0));
            }
        });
        promise(7, "- `what`: 0 for its number, 1 for its steps, 2 for the last day up to which it keeps", () -> {
            CountedDesk desk = withTwelveLots();
            int[] due = {39, 12, 71};
            for (int what = 0; what < 3; what++) {
                same("of the last lot, " + what, due[what], desk.lot(0, 11, what));
            }
        });
        throwsIf(7, NO_INDEX, "there is no such colorant", () -> noSuchColorant((d, c) -> {
            if (c >= 0 && c < 8 && d.account(0) > c && d.colorant(c, 4) == 0) {
                d.refill(c, 1, 1);
            }
            d.lot(c, 0, 0);
        }));
        throwsIf(7, NO_ELEMENT, "there is no such lot", this::noSuchLot);
        throwsIf(7, BAD_ARGUMENT, "what is not from 0 to 2", () -> {
            CountedDesk desk = withTwelveLots();
            failsOutside(0, 2, BAD_ARGUMENT, what -> desk.lot(0, 0, what));
            failsOutside(0, 2, BAD_ARGUMENT, what -> desk.lot(0, 11, what));
        });
    }

    private void pass() {
        namesNone("Promise 8", "Lets some days go by.");
        promise(8, "- `days`: the number of days, 1 to 99", () -> {
            CountedDesk desk = new CountedDesk();
            desk.pass(1);
            same("the least", 1, desk.account(12));
            desk.pass(99);
            same("the greatest", 100, desk.account(12));
        });
        promise(8, "Returns the steps that are wasted in them.", this::wastedSteps);
        throwsIf(8, BAD_ARGUMENT, "days is out of range or today would be greater than 400", this::noSuchDays);
    }

    private void addBase() {
        namesNone("Promise 9", "Makes a base.");
        promise(9, "- `first`: its value on axis 0 - `second`: on axis 1 - `third`: on axis 2", () -> {
            CountedDesk desk = new CountedDesk();
            desk.addBase(0, 99, 50, 200);
            int[] due = {0, 99, 50, 200};
            for (int what = 0; what < 4; what++) {
                same("number " + what, due[what], desk.base(0, what));
            }
        });
        promise(9, "Returns the number of the base.", () -> {
            CountedDesk desk = new CountedDesk();
            for (int i = 0; i < 6; i++) {
                same("number", i, desk.addBase(0, 0, 0, 0));
                desk.undo();
                same("the same number behind an undo", i, desk.addBase(0, 0, 0, 0));
            }
        });
        throwsIf(9, BAD_ARGUMENT, "a number is out of range", () -> {
            CountedDesk desk = new CountedDesk();
            failsOutside(0, 99, BAD_ARGUMENT, value -> desk.addBase(value, 1, 1, 1));
            failsOutside(0, 99, BAD_ARGUMENT, value -> desk.addBase(1, value, 1, 1));
            failsOutside(0, 99, BAD_ARGUMENT, value -> desk.addBase(1, 1, value, 1));
            failsOutside(0, 200, BAD_ARGUMENT, limit -> desk.addBase(1, 1, 1, limit));
            same("none was made", 0, desk.account(1));
        });
        throwsIf(9, BAD_STATE, "6 bases were made", () -> {
            CountedDesk desk = Desks.holding(0, 5, 0, 0);
            same("the sixth", 5, desk.addBase(0, 0, 0, 0));
            fails("the seventh", BAD_STATE, () -> desk.addBase(0, 0, 0, 0));
            desk.undo();
            same("the sixth again", 5, desk.addBase(0, 0, 0, 0));
            fails("the seventh again", BAD_STATE, () -> desk.addBase(0, 0, 0, 0));
        });
    }

    private void setStock() {
        namesNone("Promise 10", "Sets the stock of a base.");
        promise(10, "Returns the stock before.", () -> {
            CountedDesk desk = new CountedDesk();
            desk.addBase(0, 0, 0, 0);
            same("the first one", 0, desk.setStock(0, 99));
            same("the greatest one", 99, desk.setStock(0, 99));
            same("the same one", 99, desk.setStock(0, 0));
            same("the least one", 0, desk.setStock(0, 1));
        });
        throwsIf(10, NO_INDEX, "there is no such base", () -> noSuchBase((d, b) -> d.setStock(b, 5)));
        throwsIf(10, BAD_ARGUMENT, "the stock is out of range", () -> {
            CountedDesk desk = Desks.holding(0, 1, 0, 0);
            failsOutside(0, 99, BAD_ARGUMENT, stock -> desk.setStock(0, stock));
            same("the stock stays", 99, desk.base(0, 4));
        });
    }

    private void base() {
        namesNone("Promise 11", "Returns a number of a base.", "Returns the number.");
        promise(11, "- `what`: 0 to 2 for its value on this axis, 3 for its limit, 4 for its stock, 5 for the cans that "
            + "were mixed with it", this::numbersOfBases);
        throwsIf(11, NO_INDEX, "there is no such base", () -> noSuchBase((d, b) -> d.base(b, 0)));
        throwsIf(11, BAD_ARGUMENT, "what is not from 0 to 5", () -> {
            CountedDesk desk = Desks.holding(0, 1, 0, 0);
            failsOutside(0, 5, BAD_ARGUMENT, what -> desk.base(0, what));
            same("the first", 1, desk.base(0, 0));
            same("the last", 0, desk.base(0, 5));
        });
    }

    private void newDesk() {
        CountedDesk desk = new CountedDesk();
        for (int what = 0; what <= 12; what++) {
            same("account " + what, 0, desk.account(what));
        }
        fails("no colorant", NO_INDEX, () -> desk.colorant(0, 0));
        fails("no base", NO_INDEX, () -> desk.base(0, 0));
        fails("no formula", NO_INDEX, () -> desk.baseOf(0));
        fails("no can", NO_INDEX, () -> desk.can(0, 0));
        fails("nothing refused", NO_ELEMENT, desk::refusal);
        fails("nothing lacking", NO_ELEMENT, desk::lacking);
        fails("no change", BAD_STATE, desk::undo);
        fails("no snapshot", BAD_STATE, desk::restore);
        same("no fault", -1, desk.faultPosition());
        fails("nothing to read", BAD_ARGUMENT, desk::readFormula);
        same("the next one is new, too", 0, new CountedDesk().account(0));
    }

    private void colorantNumbers() {
        CountedDesk desk = new CountedDesk();
        for (int i = 0; i < 8; i++) {
            same("number", i, desk.addColorant(0, 0, 0));
            desk.undo();
            same("the same number behind an undo", i, desk.addColorant(0, 0, 0));
        }
    }

    private void livesOfLots() {
        CountedDesk desk = Desks.holding(2, 0, 0, 0);
        desk.setLife(0, 1);
        same("a lot that is there", 60, desk.lot(0, 0, 2));
        desk.refill(0, 6, 10);
        desk.setLife(0, 99);
        same("a lot of the life between", 1, desk.lot(0, 1, 2));
        same("none goes before", 0, desk.pass(1));
        same("the one between goes", 10, desk.pass(1));
        same("the others keep", 0, desk.pass(58));
        same("up to their last day", 200, desk.pass(1));
    }

    private void refillRefused() {
        CountedDesk desk = Desks.holding(2, 0, 0, 0);
        for (int i = 1; i < 12; i++) {
            same("lot " + i, 100 + i, desk.refill(0, i, 1));
        }
        fails("no reason yet", NO_ELEMENT, desk::refusal);
        isRefused(2, desk, () -> desk.refill(0, 5, 500));
        fails("no colorant is kept", NO_ELEMENT, desk::lacking);
        same("nothing was refilled", 111, desk.colorant(0, 5));
        same("another one is not refused", 101, desk.refill(1, 5, 1));
        same("the reason stays", 2, desk.refusal());
        desk.recall(0, 11);
        same("one went, one comes", 111, desk.refill(0, 5, 1));
        isRefused(2, desk, () -> desk.refill(0, 5, 1));
        desk.pass(61);
        same("all went", 1, desk.refill(0, 5, 1));
    }

    private void recallOfLots() {
        CountedDesk desk = new CountedDesk();
        desk.addColorant(0, 0, 0);
        desk.addColorant(0, 0, 0);
        int[] numbers = {7, 7, 9, 7, 0, 99, 7};
        for (int i = 0; i < numbers.length; i++) {
            desk.refill(0, numbers[i], i + 1);
        }
        desk.refill(1, 7, 50);
        same("the first ones, one between, and the last one", 1 + 2 + 4 + 7, desk.recall(0, 7));
        int[] due = {9, 0, 99};
        int[] dueSteps = {3, 5, 6};
        for (int i = 0; i < 3; i++) {
            same("what is left at " + i, due[i], desk.lot(0, i, 0));
            same("its steps", dueSteps[i], desk.lot(0, i, 1));
        }
        fails("no more", NO_ELEMENT, () -> desk.lot(0, 3, 0));
        same("another canister stays", 50, desk.colorant(1, 3));
        same("the last one", 6, desk.recall(0, 99));
        same("the first one", 3, desk.recall(0, 9));
        same("the only one", 5, desk.recall(0, 0));
        same("none is left", 0, desk.colorant(0, 4));
        same("recalled in all", 28, desk.colorant(0, 7));
        same("none was wasted", 0, desk.colorant(0, 8));
    }

    private void numbersOfColorants() {
        CountedDesk desk = Desks.withAnEmptyCan(1, 200);
        desk.addColorant(7, 8, 9);
        int[] dueAtFirst = {7, 8, 9, 0, 0, 0, 0, 0, 0, 60};
        for (int what = 0; what <= 9; what++) {
            same("at first, " + what, dueAtFirst[what], desk.colorant(1, what));
        }
        desk.refill(1, 1, 5);
        desk.refill(1, 2, 11);
        desk.setLife(1, 1);
        desk.refill(1, 3, 23);
        desk.setAmount(0, 1, 199);
        desk.mix(0);
        desk.correct(0, 1, 3);
        desk.pass(2);
        desk.setLife(1, 44);
        desk.refill(1, 4, 2);
        desk.recall(1, 4);
        desk.refill(1, 4, 100);
        int[] due = {7, 8, 9, 112, 3, 141, 4, 2, 23, 44};
        for (int what = 0; what <= 9; what++) {
            same("later, " + what, due[what], desk.colorant(1, what));
        }
    }

    private static CountedDesk withTwelveLots() {
        CountedDesk desk = new CountedDesk();
        desk.addColorant(0, 0, 0);
        for (int i = 0; i < 12; i++) {
            desk.refill(0, 50 - i, i + 1);
            desk.pass(1);
        }
        return desk;
    }

    private void noSuchLot() {
        CountedDesk empty = new CountedDesk();
        empty.addColorant(0, 0, 0);
        fails("an empty canister", NO_ELEMENT, () -> empty.lot(0, 0, 0));
        CountedDesk desk = withTwelveLots();
        failsOutside(0, 11, NO_ELEMENT, index -> desk.lot(0, index, 0));
        desk.recall(0, 50);
        failsOutside(0, 10, NO_ELEMENT, index -> desk.lot(0, index, 0));
        same("the last one", 39, desk.lot(0, 10, 0));
        for (int i = 38; i < 50; i++) {
            desk.recall(0, i);
        }
        fails("an empty canister again", NO_ELEMENT, () -> desk.lot(0, 0, 0));
    }

    private void wastedSteps() {
        CountedDesk desk = new CountedDesk();
        for (int i = 0; i < 8; i++) {
            desk.addColorant(0, 0, 0);
            desk.setLife(i, i + 1);
            desk.refill(i, 1, 100 + i);
            desk.refill(i, 2, 100);
        }
        same("none on the first day", 0, desk.pass(1));
        same("two lots of 0", 200, desk.pass(1));
        same("those of 1 to 3, over several days", 201 + 202 + 203, desk.pass(3));
        same("all others at once", 204 + 205 + 206 + 207, desk.pass(99));
        same("none is left", 0, desk.pass(99));
        same("in all", 1628, desk.account(11));
    }

    private void noSuchDays() {
        CountedDesk desk = new CountedDesk();
        failsOutside(1, 99, BAD_ARGUMENT, desk::pass);
        same("no day went by", 0, desk.account(12));
        for (int i = 0; i < 4; i++) {
            desk.pass(76);
        }
        fails("from 304 to 401 and more", BAD_ARGUMENT, () -> desk.pass(97));
        fails("from 304 to 403", BAD_ARGUMENT, () -> desk.pass(99));
        same("still 304", 304, desk.account(12));
        desk.pass(96);
        failsOutside(1, 0, BAD_ARGUMENT, desk::pass);
        same("the last day", 400, desk.account(12));
    }

    private void numbersOfBases() {
        CountedDesk desk = Desks.holding(1, 1, 1, 0);
        desk.addBase(97, 98, 99, 150);
        desk.setStock(1, 20);
        Desks.formula(desk, "b1:0=100");
        Desks.formula(desk, "b1:0=0");
        desk.mix(0);
        for (int i = 0; i < 19; i++) {
            desk.mix(1 + i % 2);
        }
        int[] due = {1, 2, 3, 200, 98, 1};
        int[] dueOther = {97, 98, 99, 150, 1, 19};
        for (int what = 0; what <= 5; what++) {
            same("base 0, " + what, due[what], desk.base(0, what));
            same("base 1, " + what, dueOther[what], desk.base(1, what));
        }
        desk.undo();
        same("an undone can does not count", 18, desk.base(1, 5));
    }
}

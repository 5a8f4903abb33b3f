/** Promises 19 to 33, sentence by sentence. */
final class CansBoundaries extends Boundaries {
    CansBoundaries(Sentences sentences, Check check) {
        super(sentences, check);
    }

    @Override
    void tell() {
        mix();
        refusals();
        numbersOfCans();
        correct();
        least();
        lots();
        labels();
        meanSteps();
    }

    private void mix() {
        namesNone("Promise 19", "Mixes a can.");
        promise(19, "Returns the number of the can.", () -> {
            CountedDesk desk = Desks.holding(1, 1, 2, 0);
            for (int i = 0; i < 20; i++) {
                same("number", i, desk.mix(i % 2));
                desk.undo();
                same("the same number behind an undo", i, desk.mix(1 - i % 2));
            }
        });
        throwsIf(19, NO_INDEX, "there is no such formula", () -> noSuchFormula((d, f) -> d.mix(f)));
        throwsIf(19, REFUSED, "it is refused for reason 2, 3, 4 or 5; the reason is kept for refusal",
            this::refusedMixes);
        promise(20, "Returns how many cans of a formula could be mixed one after the other, if nothing else was done.",
            this::asManyAsAreMixed);
        namesNone("Promise 20", "Returns the number.");
        throwsIf(20, NO_INDEX, "there is no such formula", () -> noSuchFormula((d, f) -> d.possible(f)));
    }

    private void refusals() {
        promise(21, "Returns the reason for which the latest call that was refused was refused.", this::latestRefusal);
        promise(21, "Returns the reason, 1 to 5.", this::allReasons);
        throwsIf(21, NO_ELEMENT, "none was refused", this::noneRefused);
        promise(22, "Returns the colorant that is kept with reason 5.", this::firstAndLastLacking);
        namesNone("Promise 22", "Returns the colorant.");
        throwsIf(22, NO_ELEMENT, "nothing was refused for reason 5, or the latest refusal was for another reason",
            this::nothingLacks);
    }

    private void numbersOfCans() {
        namesNone("Promise 23", "Returns the steps of a colorant in a can.");
        promise(23, "Returns the steps.", this::leastAndGreatestSteps);
        throwsIf(23, NO_INDEX, "there is no such can or colorant", () -> {
            noSuchCan((d, k) -> d.steps(k, 0));
            noSuchColorant((d, c) -> d.steps(0, c));
        });
        namesNone("Promise 24", "Returns a number of a can.", "Returns the number.");
        promise(24, "- `what`: 0 for its formula, 1 for its base, 2 for all steps in it, 3 for its corrections, 4 for the "
            + "steps that corrections added, 5 for how many steps more its limit allows", this::allNumbersOfCans);
        throwsIf(24, NO_INDEX, "there is no such can", () -> noSuchCan((d, k) -> d.can(k, 5)));
        throwsIf(24, BAD_ARGUMENT, "what is not from 0 to 5", () -> {
            CountedDesk desk = Desks.holding(1, 1, 1, 1);
            failsOutside(0, 5, BAD_ARGUMENT, what -> desk.can(0, what));
            same("the first", 0, desk.can(0, 0));
            same("the last", 199, desk.can(0, 5));
        });
        namesNone("Promise 25", "Returns the colour of a can.");
        promise(25, "Returns the value on this axis.", this::leastAndGreatestColours);
        throwsIf(25, NO_INDEX, "there is no such can", () -> noSuchCan((d, k) -> d.colour(k, 2)));
        throwsIf(25, BAD_ARGUMENT, "there is no such axis", () -> {
            CountedDesk desk = Desks.holding(1, 1, 1, 1);
            failsOutside(0, 2, BAD_ARGUMENT, axis -> desk.colour(0, axis));
            same("the first", 2, desk.colour(0, 0));
            same("the last", 6, desk.colour(0, 2));
        });
    }

    private void correct() {
        namesNone("Promise 26", "Corrects a can.");
        promise(26, "- `steps`: the steps, 1 to 50", () -> {
            CountedDesk desk = Desks.withAnEmptyCan(1, 200);
            desk.correct(0, 0, 1);
            same("the least", 1, desk.steps(0, 0));
            desk.correct(0, 0, 50);
            same("the greatest", 51, desk.steps(0, 0));
        });
        promise(26, "Returns all steps in the can then.", this::stepsAfterCorrections);
        throwsIf(26, NO_INDEX, "there is no such can or colorant", () -> {
            noSuchCan((d, k) -> d.correct(k, 0, 1));
            noSuchColorant((d, c) -> d.correct(0, c, 1));
        });
        throwsIf(26, BAD_ARGUMENT, "steps is out of range", () -> {
            CountedDesk desk = Desks.withAnEmptyCan(1, 40);
            failsOutside(1, 50, BAD_ARGUMENT, steps -> desk.correct(0, 0, steps));
            fails("none was refused", NO_ELEMENT, desk::refusal);
            same("nothing was corrected", 0, desk.can(0, 3));
        });
        throwsIf(26, REFUSED, "it is refused for reason 4 or 5; the reason is kept for refusal", this::refusedCorrections);
    }

    private void least() {
        namesNone("Promise 27", "Returns the steps of the least correction by which a can reaches a colour.");
        promise(27, "- `first`: the value on axis 0 - `second`: on axis 1 - `third`: on axis 2", this::valuesToReach);
        promise(27, "- `tolerance`: the tolerance, 0 to 99", () -> {
            CountedDesk desk = Desks.holding(1, 1, 1, 1);
            same("the least", 0, desk.least(0, 2, 4, 6, 0, -1));
            same("the greatest", 0, desk.least(0, 101, 103, 105, 99, -1));
            same("one step more", 1, desk.least(0, 102, 104, 106, 99, -1));
        });
        promise(27, "- `colorant`: the colorant, or -1 for all together", this::colorantOrAll);
        promise(27, "Returns the steps.", this::noneAndSixSteps);
        throwsIf(27, NO_INDEX, "there is no such can, or colorant is neither -1 nor a colorant", () -> {
            noSuchCan((d, k) -> d.least(k, 2, 4, 6, 0, -1));
            noSuchCan((d, k) -> d.least(k, 2, 4, 6, 0, 0));
            noSuchColorantOfLeast();
        });
        throwsIf(27, BAD_ARGUMENT, "tolerance is out of range", () -> {
            CountedDesk desk = Desks.holding(1, 1, 1, 1);
            failsOutside(0, 99, BAD_ARGUMENT, tolerance -> desk.least(0, 2, 4, 6, tolerance, -1));
            failsOutside(0, 99, BAD_ARGUMENT, tolerance -> desk.least(0, -500, 4, 6, tolerance, 0));
        });
        throwsIf(27, NO_ELEMENT, "no correction of at most 6 steps reaches it", this::notReached);
    }

    private void lots() {
        namesNone("Promise 28", "Returns whether steps of a lot are in a can.");
        promise(28, "Returns whether there are.", this::eachLotNumber);
        throwsIf(28, NO_INDEX, "there is no such can or colorant", () -> {
            noSuchCan((d, k) -> d.hasLot(k, 0, 5));
            noSuchColorant((d, c) -> d.hasLot(0, c, 5));
        });
        throwsIf(28, BAD_ARGUMENT, "lot is out of range", () -> {
            CountedDesk desk = Desks.holding(1, 1, 1, 1);
            failsOutside(0, 99, BAD_ARGUMENT, lot -> desk.hasLot(0, 0, lot));
            same("the least", false, desk.hasLot(0, 0, 0));
            same("the greatest", false, desk.hasLot(0, 0, 99));
        });
        namesNone("Promise 29", "Returns a can with steps of a lot.", "Returns the can.");
        promise(29, "- `index`: the index among all such cans in ascending order, from 0", this::cansInOrder);
        throwsIf(29, NO_INDEX, "there is no such colorant", () -> noSuchColorant((d, c) -> d.canWith(c, 5, 0)));
        throwsIf(29, BAD_ARGUMENT, "lot is out of range", () -> {
            CountedDesk desk = Desks.holding(1, 1, 1, 1);
            failsOutside(0, 99, BAD_ARGUMENT, lot -> desk.canWith(0, lot, 0));
            failsOutside(0, 99, BAD_ARGUMENT, lot -> desk.canWith(0, lot, -1));
            fails("the least is in range", NO_ELEMENT, () -> desk.canWith(0, 0, 0));
            fails("the greatest is in range", NO_ELEMENT, () -> desk.canWith(0, 99, 0));
        });
        throwsIf(29, NO_ELEMENT, "there is no such index", this::noSuchIndexOfCans);
        namesNone("Promise 30", "Returns the formulas of which some can has steps of a lot.");
        promise(30, "Returns the set of formulas, bit k for formula k.", this::bitsOfFormulas);
        throwsIf(30, NO_INDEX, "there is no such colorant", () -> noSuchColorant((d, c) -> d.formulasWith(c, 5)));
        throwsIf(30, BAD_ARGUMENT, "lot is out of range", () -> {
            CountedDesk desk = Desks.holding(1, 1, 1, 1);
            failsOutside(0, 99, BAD_ARGUMENT, lot -> desk.formulasWith(0, lot));
            same("the least", 0, desk.formulasWith(0, 0));
            same("the greatest", 0, desk.formulasWith(0, 99));
        });
    }

    private void labels() {
        namesNone("Promise 31", "Returns the length of the label of a can.");
        promise(31, "Returns the length.", this::shortestAndLongestLabel);
        throwsIf(31, NO_INDEX, "there is no such can", () -> noSuchCan((d, k) -> d.labelLength(k)));
        namesNone("Promise 32", "Returns a character of the label of a can.");
        promise(32, "- `index`: the index, from 0", () -> {
            CountedDesk desk = Desks.holding(1, 1, 1, 1);
            same("the first", 'b', desk.label(0, 0));
            same("the second", '0', desk.label(0, 1));
            same("the last", '5', desk.label(0, 7));
        });
        promise(32, "Returns the character.", this::lastCharacters);
        throwsIf(32, NO_INDEX, "there is no such can", () -> noSuchCan((d, k) -> d.label(k, 1)));
        throwsIf(32, NO_ELEMENT, "there is no such index", this::noSuchIndexOfLabels);
    }

    private void meanSteps() {
        namesNone("Promise 33", "Returns the mean steps in the cans of a formula.");
        promise(33, "Returns the sum of all steps in them divided by their number, both as doubles.", this::means);
        throwsIf(33, NO_INDEX, "there is no such formula", () -> noSuchFormula((d, f) -> d.meanSteps(f)));
        throwsIf(33, NO_QUOTIENT, "no can of it was mixed", this::noMean);
    }

    private void refusedMixes() {
        CountedDesk desk = Desks.stocked(2, 4);
        desk.recall(1, 1);
        Desks.formula(desk, "b0:0=250,1=200");
        desk.setStock(0, 0);
        isRefused(3, desk, () -> desk.mix(0));
        desk.setStock(0, 99);
        isRefused(5, desk, () -> desk.mix(0));
        same("with its colorant", 1, desk.lacking());
        desk.setAmount(0, 1, 299);
        isRefused(5, desk, () -> desk.mix(0));
        desk.setAmount(0, 1, 300);
        isRefused(4, desk, () -> desk.mix(0));
        desk.setAmount(0, 1, 0);
        for (int i = 0; i < 20; i++) {
            desk.mix(0);
        }
        isRefused(2, desk, () -> desk.mix(0));
        same("the stock is as before", 79, desk.base(0, 4));
        same("the canisters, too", 50, desk.account(4));
        same("no can more", 20, desk.account(3));
    }

    private void asManyAsAreMixed() {
        int[][] cases = {{0, 99, 500, 200}, {99, 1, 0, 200}, {99, 3, 500, 200}, {50, 99, 7, 200}, {150, 99, 40, 1},
            {150, 99, 40, 2}, {133, 99, 17, 2}, {9999, 99, 500, 200}, {9999, 99, 99, 99}, {9999, 99, 98, 99},
            {1, 99, 0, 0}, {100, 99, 500, 0}, {100, 0, 500, 200}, {10, 99, 1, 1}, {100, 19, 19, 1}};
        int[] due = {20, 1, 3, 15, 1, 20, 13, 5, 1, 0, 20, 0, 0, 19, 19};
        for (int i = 0; i < cases.length; i++) {
            int[] with = cases[i];
            CountedDesk desk = new CountedDesk();
            desk.addColorant(0, 0, 0);
            if (with[2] > 0) {
                desk.refill(0, 1, with[2]);
            }
            desk.addBase(0, 0, 0, with[3]);
            desk.setStock(0, with[1]);
            Desks.formula(desk, "b0:0=" + with[0]);
            same("case " + i, due[i], desk.possible(0));
            for (int left = due[i] - 1; left >= 0; left--) {
                desk.mix(0);
                same("left in case " + i, left, desk.possible(0));
            }
            fails("no can more in case " + i, REFUSED, () -> desk.mix(0));
        }
    }

    private void latestRefusal() {
        CountedDesk desk = Desks.stocked(1, 3);
        Desks.formula(desk, "b0:0=400");
        isRefused(4, desk, () -> desk.mix(0));
        desk.setStock(0, 0);
        isRefused(3, desk, () -> desk.mix(0));
        fails("another exception", NO_INDEX, () -> desk.mix(1));
        fails("another exception", BAD_ARGUMENT, desk::readFormula);
        desk.setStock(0, 9);
        desk.setAmount(0, 0, 300);
        desk.mix(0);
        same("a success leaves it", 3, desk.refusal());
        isRefused(4, desk, () -> desk.correct(0, 0, 1));
        same("asking leaves it", 4, desk.refusal());
    }

    private void allReasons() {
        CountedDesk desk = Desks.stocked(1, 1);
        Desks.formula(desk, "b0:0=100");
        Desks.type(desk, "b1:0=1");
        isRefused(1, desk, desk::readFormula);
        for (int i = 1; i < 12; i++) {
            desk.refill(0, i, 1);
        }
        isRefused(2, desk, () -> desk.refill(0, 12, 1));
        desk.setStock(0, 0);
        isRefused(3, desk, () -> desk.mix(0));
        desk.setStock(0, 9);
        desk.mix(0);
        isRefused(4, desk, () -> desk.correct(0, 0, 1));
        desk.pass(61);
        isRefused(5, desk, () -> desk.mix(0));
    }

    private void noneRefused() {
        CountedDesk desk = Desks.holding(1, 1, 1, 1);
        fails("successes", NO_ELEMENT, desk::refusal);
        fails("another exception", BAD_STATE, desk::restore);
        fails("another exception", NO_INDEX, () -> desk.mix(9));
        fails("another exception", BAD_ARGUMENT, () -> desk.correct(0, 0, 51));
        fails("another exception", BAD_ARGUMENT, () -> desk.refill(0, 5, 501));
        fails("another exception", BAD_ARGUMENT, desk::readFormula);
        fails("another exception", NO_ELEMENT, () -> desk.least(0, 0, 0, 0, 0, 0));
        desk.setStock(0, 0);
        same("what is asked", 0, desk.possible(0));
        fails("none was refused", NO_ELEMENT, desk::refusal);
    }

    private void firstAndLastLacking() {
        CountedDesk desk = Desks.holding(8, 1, 1, 1);
        for (int i = 7; i >= 0; i--) {
            desk.recall(i, 5);
            isRefused(5, desk, () -> desk.mix(0));
            same("the lowest one", i, desk.lacking());
        }
        isRefused(5, desk, () -> desk.correct(0, 7, 1));
        same("the one of the correction", 7, desk.lacking());
        desk.refill(7, 1, 9);
        same("it is kept when there are steps again", 7, desk.lacking());
    }

    private void nothingLacks() {
        CountedDesk desk = Desks.stocked(2, 2);
        fails("nothing was refused", NO_ELEMENT, desk::lacking);
        Desks.formula(desk, "b0:1=200");
        desk.mix(0);
        isRefused(4, desk, () -> desk.correct(0, 0, 1));
        fails("nothing for reason 5", NO_ELEMENT, desk::lacking);
        desk.recall(1, 1);
        isRefused(5, desk, () -> desk.mix(0));
        same("reason 5", 1, desk.lacking());
        isRefused(4, desk, () -> desk.correct(0, 1, 1));
        fails("reason 4 is the latest", NO_ELEMENT, desk::lacking);
        isRefused(5, desk, () -> desk.mix(0));
        desk.setStock(0, 0);
        isRefused(3, desk, () -> desk.mix(0));
        fails("reason 3 is the latest", NO_ELEMENT, desk::lacking);
        desk.setStock(0, 9);
        isRefused(5, desk, () -> desk.mix(0));
        Desks.type(desk, "b0:2=1");
        isRefused(1, desk, desk::readFormula);
        fails("reason 1 is the latest", NO_ELEMENT, desk::lacking);
        isRefused(5, desk, () -> desk.mix(0));
        for (int i = 1; i < 12; i++) {
            desk.refill(0, 0, 1);
        }
        isRefused(2, desk, () -> desk.refill(0, 0, 1));
        fails("reason 2 is the latest", NO_ELEMENT, desk::lacking);
    }

    private void leastAndGreatestSteps() {
        CountedDesk desk = Desks.withAnEmptyCan(2, 200);
        desk.refill(1, 2, 100);
        same("none", 0, desk.steps(0, 1));
        for (int i = 1; i <= 4; i++) {
            desk.correct(0, 1, 50);
            same("more", 50 * i, desk.steps(0, 1));
        }
        same("none of the other", 0, desk.steps(0, 0));
        desk.pass(61);
        desk.setAmount(0, 1, 9999);
        same("they stay", 200, desk.steps(0, 1));
    }

    private void allNumbersOfCans() {
        CountedDesk desk = Desks.holding(2, 6, 10, 0);
        desk.addColorant(0, 0, 0);
        for (int i = 0; i < 10; i++) {
            desk.mix(9 - i);
        }
        desk.refill(2, 1, 200);
        for (int i = 0; i < 4; i++) {
            desk.correct(9, 2, i == 0 ? 48 : 50);
        }
        int[][] due = {{9, 3, 1, 0, 0, 199}, {0, 0, 200, 4, 198, 0}};
        for (int what = 0; what <= 5; what++) {
            same("of the first can, " + what, due[0][what], desk.can(0, what));
            same("of the last can, " + what, due[1][what], desk.can(9, what));
        }
        CountedDesk narrow = Desks.withAnEmptyCan(1, 0);
        for (int what = 0; what <= 5; what++) {
            same("of a can without room, " + what, 0, narrow.can(0, what));
        }
    }

    private void leastAndGreatestColours() {
        CountedDesk desk = new CountedDesk();
        desk.addColorant(0, 9, 0);
        desk.addColorant(9, 9, 0);
        desk.addBase(0, 99, 99, 200);
        desk.refill(0, 1, 500);
        desk.refill(1, 1, 500);
        desk.setStock(0, 9);
        Desks.formula(desk, "b0:0=9999");
        desk.mix(0);
        int[] due = {0, 990, 99};
        for (int axis = 0; axis < 3; axis++) {
            same("with 99 steps, on " + axis, due[axis], desk.colour(0, axis));
        }
        desk.correct(0, 1, 50);
        desk.correct(0, 1, 50);
        desk.correct(0, 1, 1);
        int[] dueLater = {909, 1899, 99};
        for (int axis = 0; axis < 3; axis++) {
            same("with 200 steps, on " + axis, dueLater[axis], desk.colour(0, axis));
        }
    }

    private void stepsAfterCorrections() {
        CountedDesk desk = Desks.stocked(2, 200);
        Desks.formula(desk, "b0:0=299,1=100");
        desk.mix(0);
        same("all steps", 4, desk.correct(0, 0, 1));
        same("of the other colorant", 5, desk.correct(0, 1, 1));
        desk.refill(0, 1, 500);
        desk.correct(0, 0, 50);
        desk.correct(0, 0, 50);
        desk.correct(0, 0, 50);
        same("up to the limit", 200, desk.correct(0, 0, 45));
    }

    private void refusedCorrections() {
        CountedDesk desk = Desks.withAnEmptyCan(2, 20);
        desk.recall(1, 1);
        desk.refill(1, 3, 2);
        isRefused(4, desk, () -> desk.correct(0, 0, 21));
        fails("no colorant is kept", NO_ELEMENT, desk::lacking);
        isRefused(4, desk, () -> desk.correct(0, 1, 50));
        isRefused(5, desk, () -> desk.correct(0, 1, 3));
        same("its colorant", 1, desk.lacking());
        same("nothing was corrected", 0, desk.can(0, 3));
        same("nothing was pumped", 102, desk.account(4));
        same("as many as there are", 2, desk.correct(0, 1, 2));
        isRefused(5, desk, () -> desk.correct(0, 1, 1));
        same("as the limit allows", 20, desk.correct(0, 0, 18));
        isRefused(4, desk, () -> desk.correct(0, 0, 1));
        isRefused(4, desk, () -> desk.correct(0, 1, 1));
    }

    private void valuesToReach() {
        CountedDesk desk = new CountedDesk();
        for (int i = 0; i < 3; i++) {
            desk.addColorant(i == 0 ? 1 : 0, i == 1 ? 1 : 0, i == 2 ? 1 : 0);
            desk.refill(i, 0, 9);
        }
        desk.addBase(10, 20, 30, 99);
        desk.setStock(0, 1);
        Desks.formula(desk, "b0:0=0");
        desk.mix(0);
        int[] due = {1, 2, 3};
        for (int i = 0; i < 3; i++) {
            same("of " + i, due[i], desk.least(0, 11, 22, 33, 0, i));
        }
        fails("in another order", NO_ELEMENT, () -> desk.least(0, 33, 22, 11, 0, -1));
    }

    private void colorantOrAll() {
        CountedDesk desk = Desks.holding(8, 1, 1, 0);
        for (int i = 0; i < 7; i++) {
            desk.recall(i, 5);
        }
        desk.refill(0, 1, 2);
        Desks.formula(desk, "b0:7=0");
        desk.mix(1);
        int[] due = {2, 0, 0, 0, 0, 0, 0, 1};
        for (int i = 0; i < 8; i++) {
            same("of " + i, due[i], desk.least(0, 4, 8, 12, 0, i));
        }
        same("all together", 3, desk.least(0, 4, 8, 12, 0, -1));
    }

    private void noneAndSixSteps() {
        CountedDesk desk = Desks.holding(2, 1, 1, 1);
        for (int steps = 0; steps <= 6; steps++) {
            int more = steps;
            same("all", steps, desk.least(0, 3 + more, 6 + 2 * more, 9 + 3 * more, 0, -1));
            same("of 0", steps, desk.least(0, 3 + more, 6 + 2 * more, 9 + 3 * more, 0, 0));
            same("of 1", 0, desk.least(0, 3 + more, 6 + 2 * more, 9 + 3 * more, 0, 1));
        }
        fails("seven", NO_ELEMENT, () -> desk.least(0, 10, 20, 30, 0, -1));
        same("nothing was added", 2, desk.can(0, 2));
    }

    private void noSuchColorantOfLeast() {
        CountedDesk desk = Desks.holding(3, 1, 1, 1);
        int[] none = {-2, 3, 8, -256, 255, 256, 65535, Integer.MIN_VALUE, Integer.MAX_VALUE};
        for (int colorant : none) {
            fails("colorant " + colorant, NO_INDEX, () -> desk.least(0, 4, 8, 12, 0, colorant));
            fails("not reached, colorant " + colorant, NO_INDEX, () -> desk.least(0, 0, 0, 0, 0, colorant));
        }
        same("the last colorant", 0, desk.least(0, 4, 8, 12, 0, 2));
        same("all together", 0, desk.least(0, 4, 8, 12, 0, -1));
    }

    private void notReached() {
        CountedDesk desk = Desks.holding(1, 1, 1, 1);
        fails("less than it is, on axis 0", NO_ELEMENT, () -> desk.least(0, 1, 4, 6, 0, -1));
        fails("less than it is, on axis 1", NO_ELEMENT, () -> desk.least(0, 2, 3, 6, 0, -1));
        fails("less than it is, on axis 2", NO_ELEMENT, () -> desk.least(0, 2, 4, 5, 0, 0));
        fails("between two steps", NO_ELEMENT, () -> desk.least(0, 3, 5, 7, 0, -1));
        same("between two steps, with a tolerance", 0, desk.least(0, 3, 5, 7, 1, -1));
        same("six steps", 6, desk.least(0, 8, 16, 24, 0, -1));
        fails("seven steps", NO_ELEMENT, () -> desk.least(0, 9, 18, 27, 0, -1));
        fails("seven steps, of a colorant", NO_ELEMENT, () -> desk.least(0, 9, 18, 27, 0, 0));
        fails("seven steps, within 2", NO_ELEMENT, () -> desk.least(0, 9, 18, 27, 2, -1));
        same("seven steps, within 3", 6, desk.least(0, 9, 18, 27, 3, -1));
        desk.recall(0, 5);
        fails("without steps", NO_ELEMENT, () -> desk.least(0, 3, 6, 9, 0, -1));
        same("as it is", 0, desk.least(0, 2, 4, 6, 0, -1));
    }

    private void eachLotNumber() {
        CountedDesk desk = Desks.withAnEmptyCan(1, 200);
        desk.recall(0, 0);
        int[] lots = {0, 31, 32, 63, 64, 65, 98, 99};
        for (int lot : lots) {
            desk.refill(0, lot, 1);
        }
        for (int lot : lots) {
            same("not yet " + lot, false, desk.hasLot(0, 0, lot));
            desk.correct(0, 0, 1);
            same("then " + lot, true, desk.hasLot(0, 0, lot));
        }
        for (int lot = 0; lot < 100; lot++) {
            boolean isThere = false;
            for (int some : lots) {
                isThere |= some == lot;
            }
            same("lot " + lot, isThere, desk.hasLot(0, 0, lot));
        }
    }

    private void cansInOrder() {
        CountedDesk desk = Desks.holding(2, 1, 1, 20);
        for (int i = 0; i < 20; i++) {
            same("the can at " + i, i, desk.canWith(0, 5, i));
        }
        desk.refill(1, 99, 9);
        desk.recall(1, 5);
        desk.correct(19, 1, 1);
        desk.correct(7, 1, 1);
        desk.correct(0, 1, 1);
        int[] due = {0, 7, 19};
        for (int i = 0; i < 3; i++) {
            same("in ascending order at " + i, due[i], desk.canWith(1, 99, i));
        }
    }

    private void noSuchIndexOfCans() {
        CountedDesk desk = Desks.holding(1, 1, 1, 20);
        failsOutside(0, 19, NO_ELEMENT, index -> desk.canWith(0, 5, index));
        failsOutside(1, 0, NO_ELEMENT, index -> desk.canWith(0, 6, index));
        same("the last one", 19, desk.canWith(0, 5, 19));
        desk.undo();
        fails("the last one, undone", NO_ELEMENT, () -> desk.canWith(0, 5, 19));
        CountedDesk empty = Desks.holding(1, 1, 1, 0);
        failsOutside(1, 0, NO_ELEMENT, index -> empty.canWith(0, 5, index));
    }

    private void bitsOfFormulas() {
        CountedDesk desk = Desks.holding(1, 1, 10, 0);
        same("none", 0, desk.formulasWith(0, 5));
        int due = 0;
        for (int i = 9; i >= 0; i--) {
            desk.mix(i);
            due |= 1 << i;
            same("those from " + i, due, desk.formulasWith(0, 5));
        }
        desk.mix(9);
        same("each once", 1023, desk.formulasWith(0, 5));
        same("of another lot", 0, desk.formulasWith(0, 6));
        desk.refill(0, 6, 9);
        desk.recall(0, 5);
        desk.correct(0, 0, 1);
        same("the last one, by a correction", 512, desk.formulasWith(0, 6));
        desk.correct(9, 0, 1);
        same("the first one, too", 513, desk.formulasWith(0, 6));
        CountedDesk full = Desks.holding(2, 1, 10, 20);
        same("of twenty cans", 1023, full.formulasWith(0, 5));
        same("of two of twenty", 1, full.formulasWith(1, 5));
    }

    private void shortestAndLongestLabel() {
        same("the shortest", 2, Desks.withAnEmptyCan(2, 200).labelLength(0));
        CountedDesk desk = Desks.withTheLongestLabel();
        same("the longest", 646, desk.labelLength(0));
        String end = Desks.longestLabel().substring(446);
        for (int i = 0; i < 200; i++) {
            same("its end at " + i, end.charAt(i), desk.label(0, 446 + i));
        }
        fails("behind it", NO_ELEMENT, () -> desk.label(0, 646));
    }

    private void lastCharacters() {
        CountedDesk desk = Desks.withAnEmptyCan(8, 200);
        desk.correct(0, 7, 1);
        String due = "b0,7=1:7+1";
        for (int i = 0; i < due.length(); i++) {
            same("at " + i, due.charAt(i), desk.label(0, i));
        }
        same("the length", due.length(), desk.labelLength(0));
    }

    private void noSuchIndexOfLabels() {
        CountedDesk desk = Desks.holding(1, 1, 1, 1);
        same("the label", "b0,0=1:5", Desks.label(desk, 0));
        failsOutside(0, 7, NO_ELEMENT, index -> desk.label(0, index));
        desk.correct(0, 0, 9);
        same("a longer label", "b0,0=10:5+9", Desks.label(desk, 0));
        failsOutside(0, 10, NO_ELEMENT, index -> desk.label(0, index));
        CountedDesk empty = Desks.withAnEmptyCan(1, 1);
        failsOutside(0, 1, NO_ELEMENT, index -> empty.label(0, index));
    }

    private void means() {
        CountedDesk desk = Desks.stocked(2, 200);
        Desks.formula(desk, "b0:0=0");
        Desks.formula(desk, "b0:0=9999,1=9999");
        desk.mix(0);
        same("of none", 0.0, desk.meanSteps(0));
        desk.mix(1);
        same("of one can", 198.0, desk.meanSteps(1));
        desk.mix(0);
        desk.mix(0);
        desk.correct(3, 0, 1);
        same("a third", 1.0 / 3.0, desk.meanSteps(0));
        desk.correct(2, 1, 1);
        same("two thirds", 2.0 / 3.0, desk.meanSteps(0));
        same("the other one is as before", 198.0, desk.meanSteps(1));
        CountedDesk full = Desks.holding(3, 1, 10, 20);
        full.correct(19, 0, 1);
        same("of the first and the eleventh can", 3.0, full.meanSteps(0));
        same("of the tenth and the twentieth", 1.5, full.meanSteps(9));
    }

    private void noMean() {
        CountedDesk desk = Desks.holding(1, 1, 2, 0);
        fails("no can at all", NO_QUOTIENT, () -> desk.meanSteps(0));
        desk.mix(0);
        same("a can of it", 1.0, desk.meanSteps(0));
        fails("none of the other", NO_QUOTIENT, () -> desk.meanSteps(1));
        desk.undo();
        fails("the can is undone", NO_QUOTIENT, () -> desk.meanSteps(0));
    }
}

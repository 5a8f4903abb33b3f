/** Promises 12 to 18, sentence by sentence. */
final class FormulasBoundaries extends Boundaries {
    FormulasBoundaries(Sentences sentences, Check check) {
        super(sentences, check);
    }

    @Override
    void tell() {
        append();
        readFormula();
        faultPosition();
        setAmount();
        amount();
        namesNone("Promise 17", "Returns the base of a formula.");
        promise(17, "Returns the base.", this::basesOfFormulas);
        throwsIf(17, NO_INDEX, "there is no such formula", () -> noSuchFormula((d, f) -> d.baseOf(f)));
        closest();
    }

    private void append() {
        namesNone("Promise 12", "Appends a character to the text buffer.");
        promise(12, "- `c`: the character, any one", this::anyCharacter);
        throwsIf(12, BAD_STATE, "the buffer contains 60 characters", this::sixtyCharacters);
    }

    private void readFormula() {
        promise(13, "Reads the text buffer as a text of a formula and makes it.", this::shortestAndLongestText);
        promise(13, "The buffer is emptied, also if an exception is thrown.", this::bufferIsEmptied);
        promise(13, "Returns the number of the formula.", () -> {
            CountedDesk desk = Desks.stocked(1, 1);
            for (int i = 0; i < 10; i++) {
                same("number", i, Desks.formula(desk, "b0:0=1"));
                desk.undo();
                same("the same number behind an undo", i, Desks.formula(desk, "b0:0=2"));
                same("the formula", 2, desk.amount(i, 0, false));
            }
        });
        throwsIf(13, BAD_ARGUMENT, "the text has a fault", this::faultyTexts);
        throwsIf(13, REFUSED, "it is refused for reason 1 or 2; the reason is kept for refusal", this::refusedTexts);
    }

    private void faultPosition() {
        promise(14, "Returns the fault position of the text of the latest call of readFormula.", this::latestText);
        promise(14, "Returns the fault position, or -1 if the text had no fault or readFormula has not been called.",
            this::noFault);
    }

    private void setAmount() {
        namesNone("Promise 15", "Sets an amount of a formula.");
        promise(15, "Returns the amount before.", () -> {
            CountedDesk desk = Desks.stocked(2, 200);
            Desks.formula(desk, "b0:1=9999");
            same("at first", 0, desk.setAmount(0, 0, 9999));
            same("the greatest", 9999, desk.setAmount(0, 0, 9999));
            same("the same", 9999, desk.setAmount(0, 0, 0));
            same("the least", 0, desk.setAmount(0, 0, 7));
            same("that of the text", 9999, desk.setAmount(0, 1, 0));
        });
        throwsIf(15, NO_INDEX, "there is no such formula or colorant", () -> {
            noSuchFormula((d, f) -> d.setAmount(f, 0, 5));
            noSuchColorant((d, c) -> d.setAmount(0, c, 5));
        });
        throwsIf(15, BAD_ARGUMENT, "the amount is out of range", () -> {
            CountedDesk desk = Desks.stocked(1, 200);
            Desks.formula(desk, "b0:0=199");
            desk.mix(0);
            failsOutside(0, 9999, BAD_ARGUMENT, amount -> desk.setAmount(0, 0, amount));
            same("the amount stays", 199, desk.amount(0, 0, false));
            same("the carry stays", 99, desk.amount(0, 0, true));
        });
    }

    private void amount() {
        namesNone("Promise 16", "Returns an amount of a formula, or its carry.", "Returns the number.");
        promise(16, "- `isCarry`: true for the carry, false for the amount", () -> {
            CountedDesk desk = Desks.stocked(2, 200);
            Desks.formula(desk, "b0:0=9999,1=1");
            same("no carry at first", 0, desk.amount(0, 0, true));
            desk.mix(0);
            same("the amount", 9999, desk.amount(0, 0, false));
            same("the greatest carry", 99, desk.amount(0, 0, true));
            same("another amount", 1, desk.amount(0, 1, false));
            same("its carry", 1, desk.amount(0, 1, true));
        });
        throwsIf(16, NO_INDEX, "there is no such formula or colorant", () -> {
            noSuchFormula((d, f) -> d.amount(f, 0, false));
            noSuchFormula((d, f) -> d.amount(f, 0, true));
            noSuchColorant((d, c) -> d.amount(0, c, false));
            noSuchColorant((d, c) -> d.amount(0, c, true));
        });
    }

    private void closest() {
        promise(18, "Returns the formula whose amounts are the closest ones to a can: the sum over all colorants of the "
            + "differences, without sign, of the amount and 100 times the steps in the can is the least one.",
            this::leastSum);
        promise(18, "Returns the formula, of several the lowest one, of those with the base of the can.",
            this::lowestOfItsBase);
        throwsIf(18, NO_INDEX, "there is no such can", () -> noSuchCan((d, k) -> d.closest(k)));
    }

    private void anyCharacter() {
        char[] signs = {0, 9, 10, 127, 128, 255, 256, 0xd800, 0xffff};
        for (char sign : signs) {
            CountedDesk desk = Desks.stocked(1, 1);
            Desks.type(desk, "b0:0=1");
            desk.append(sign);
            fails("it is in the text: " + (int) sign, BAD_ARGUMENT, desk::readFormula);
            same("at its place: " + (int) sign, 6, desk.faultPosition());
        }
        CountedDesk desk = Desks.stocked(1, 1);
        for (int i = 0; i < 60; i++) {
            desk.append((char) (1000 * i));
        }
        fails("sixty of them", BAD_ARGUMENT, desk::readFormula);
        same("the first one is a fault", 0, desk.faultPosition());
    }

    private void sixtyCharacters() {
        CountedDesk desk = Desks.stocked(1, 1);
        String text = "b0:" + "0=1,".repeat(13) + "0=765";
        Desks.type(desk, text);
        fails("a sign more", BAD_STATE, () -> desk.append('4'));
        fails("another one", BAD_STATE, () -> desk.append(','));
        same("the text is as before", 0, desk.readFormula());
        same("with its end", 765, desk.amount(0, 0, false));
        Desks.type(desk, text.substring(1));
        desk.append('x');
        fails("a sign more again", BAD_STATE, () -> desk.append('x'));
        fails("it is emptied by reading, too", BAD_ARGUMENT, desk::readFormula);
        desk.append('x');
        fails("room again", BAD_ARGUMENT, desk::readFormula);
    }

    private void shortestAndLongestText() {
        CountedDesk desk = Desks.stocked(2, 1);
        same("the shortest", 0, Desks.formula(desk, "b0:1=7"));
        same("its amount", 7, desk.amount(0, 1, false));
        same("of 59 signs", 1, Desks.formula(desk, "b0:" + "0=1,".repeat(12) + "1=88,0=2"));
        same("its first amount", 2, desk.amount(1, 0, false));
        same("its second amount", 88, desk.amount(1, 1, false));
        same("of 60 signs", 2, Desks.formula(desk, "b0:" + "0=1,".repeat(12) + "1=88,0=23"));
        same("the amount at its end", 23, desk.amount(2, 0, false));
        same("three were made", 3, desk.account(2));
        same("it is one change", 7, desk.undo());
    }

    private void bufferIsEmptied() {
        CountedDesk desk = Desks.stocked(1, 1);
        String[] texts = {"", "x", "b0:0=", "b9:0=1", "b0:9=1", "b0:0=1"};
        for (String text : texts) {
            Desks.type(desk, text);
            try {
                desk.readFormula();
            } catch (IllegalArgumentException | UnsupportedOperationException thrown) {
                same("no formula of " + text, 0, desk.account(2));
            }
            fails("empty behind " + text, BAD_ARGUMENT, desk::readFormula);
            same("that is a fault at 0", 0, desk.faultPosition());
        }
        for (int i = 1; i < 10; i++) {
            Desks.formula(desk, "b0:0=1");
        }
        Desks.type(desk, "b0:0=1");
        isRefused(2, desk, desk::readFormula);
        fails("empty behind the eleventh", BAD_ARGUMENT, desk::readFormula);
        Desks.type(desk, "x".repeat(60));
        fails("sixty fit in again", BAD_ARGUMENT, desk::readFormula);
    }

    private void faultyTexts() {
        CountedDesk desk = Desks.stocked(1, 1);
        String[] texts = {"", "b", "b0", "b0:", "b0:0", "b0:0=", "b0:0=1,", "b0:0=01", "b0:0=10000", "b0:0=1,0", "bb0:0=1",
            "b9:9=", "b0:9=x"};
        for (String text : texts) {
            Desks.type(desk, text);
            fails("reading " + text, BAD_ARGUMENT, desk::readFormula);
        }
        same("no formula was made", 0, desk.account(2));
        fails("none was refused", NO_ELEMENT, desk::refusal);
        same("no change was made", 3, desk.undo());
        for (int i = 0; i < 10; i++) {
            Desks.formula(desk, "b0:0=1");
        }
        Desks.type(desk, "b0:0=1,");
        fails("with ten formulas", BAD_ARGUMENT, desk::readFormula);
    }

    private void refusedTexts() {
        CountedDesk desk = Desks.stocked(1, 1);
        Desks.type(desk, "b1:0=1");
        isRefused(1, desk, desk::readFormula);
        Desks.type(desk, "b0:1=1");
        isRefused(1, desk, desk::readFormula);
        for (int i = 0; i < 10; i++) {
            Desks.formula(desk, "b0:0=1");
        }
        same("the reason stays", 1, desk.refusal());
        Desks.type(desk, "b0:0=1");
        isRefused(2, desk, desk::readFormula);
        fails("no colorant is kept", NO_ELEMENT, desk::lacking);
        desk.undo();
        same("there is room again", 9, Desks.formula(desk, "b0:0=1"));
        same("the reason stays", 2, desk.refusal());
    }

    private void latestText() {
        CountedDesk desk = Desks.stocked(1, 1);
        Desks.type(desk, "b0:0=1,x");
        fails("a fault", BAD_ARGUMENT, desk::readFormula);
        same("its position", 7, desk.faultPosition());
        Desks.type(desk, "b0x");
        same("not that of the buffer", 7, desk.faultPosition());
        fails("another fault", BAD_ARGUMENT, desk::readFormula);
        same("that of the latest text", 2, desk.faultPosition());
        fails("an empty text", BAD_ARGUMENT, desk::readFormula);
        same("the least one", 0, desk.faultPosition());
        Desks.type(desk, "b0:" + "0=1,".repeat(14) + "0");
        fails("a text of 60 signs", BAD_ARGUMENT, desk::readFormula);
        same("the greatest one", 60, desk.faultPosition());
    }

    private void noFault() {
        CountedDesk desk = Desks.stocked(1, 1);
        same("not called yet", -1, desk.faultPosition());
        Desks.type(desk, "xx");
        same("not called yet, with a buffer", -1, desk.faultPosition());
        fails("a fault", BAD_ARGUMENT, desk::readFormula);
        same("at 0", 0, desk.faultPosition());
        Desks.formula(desk, "b0:0=1");
        same("no fault", -1, desk.faultPosition());
        fails("a fault", BAD_ARGUMENT, desk::readFormula);
        Desks.type(desk, "b1:0=1");
        isRefused(1, desk, desk::readFormula);
        same("no fault in a refused one", -1, desk.faultPosition());
    }

    private void basesOfFormulas() {
        CountedDesk desk = Desks.holding(1, 6, 7, 0);
        int[] due = {0, 1, 2, 3, 4, 5, 0};
        for (int i = 0; i < 7; i++) {
            same("of " + i, due[i], desk.baseOf(i));
        }
    }

    private void leastSum() {
        CountedDesk desk = Desks.stocked(8, 200);
        Desks.formula(desk, "b0:0=200");
        desk.mix(0);
        Desks.formula(desk, "b0:0=101");
        desk.setAmount(0, 0, 300);
        same("99 is less than 100", 1, desk.closest(0));
        desk.setAmount(1, 0, 100);
        same("too many are as far as too few", 0, desk.closest(0));
        desk.setAmount(0, 7, 1);
        same("the last colorant counts", 1, desk.closest(0));
        desk.setAmount(1, 3, 1);
        desk.setAmount(1, 4, 1);
        same("differences are added", 0, desk.closest(0));
        desk.setAmount(0, 0, 150);
        desk.setAmount(0, 7, 9999);
        same("the greatest difference", 1, desk.closest(0));
        desk.setAmount(1, 0, 200);
        for (int i = 1; i < 8; i++) {
            desk.setAmount(1, i, 9999);
        }
        same("the greatest sum", 0, desk.closest(0));
        CountedDesk signs = Desks.stocked(2, 200);
        Desks.formula(signs, "b0:0=200,1=200");
        signs.mix(0);
        Desks.formula(signs, "b0:0=200,1=250");
        signs.setAmount(0, 0, 100);
        signs.setAmount(0, 1, 300);
        same("below and above are not set off", 1, signs.closest(0));
        CountedDesk carries = Desks.stocked(1, 200);
        Desks.formula(carries, "b0:0=150");
        Desks.formula(carries, "b0:0=30");
        carries.mix(0);
        same("carries do not count", 0, carries.closest(0));
    }

    private void lowestOfItsBase() {
        CountedDesk desk = Desks.holding(1, 2, 10, 2);
        same("of five alike with base 0", 0, desk.closest(0));
        same("of five alike with base 1", 1, desk.closest(1));
        desk.setAmount(1, 0, 101);
        same("the next one with base 1", 3, desk.closest(1));
        desk.setAmount(0, 0, 99);
        same("the next one with base 0", 2, desk.closest(0));
        for (int i = 0; i < 10; i++) {
            desk.setAmount(i, 0, 9999 - i);
        }
        same("the last one with base 0", 8, desk.closest(0));
        same("the last one with base 1", 9, desk.closest(1));
    }
}

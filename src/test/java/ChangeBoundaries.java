/** What the terms say of changes and of calls that throw, and how long an object is used. */
final class ChangeBoundaries extends Boundaries {
    ChangeBoundaries(Sentences sentences, Check check) {
        super(sentences, check);
    }

    @Override
    void tell() {
        term("Changes. A change is a successful call of addColorant, setLife, refill, recall, pass, addBase, setStock, "
            + "readFormula, setAmount, mix or correct.", this::whatAChangeIs);
        term("The desk before each of the latest 8 changes is kept and can be undone", this::latestEight);
        term("restore forgets them.", this::restoreForgets);
        term("The text buffer, the fault position, and the reason and the colorant that are kept do not belong to it, "
            + "and stay.", this::whatStays);
        term("A successful call is a change even if it leaves all as it was.", this::changesOfNothing);
        term("Recalling a lot that is not there is a change, too.", this::recallOfNothing);
        term("Exceptions. A call that throws an exception leaves the state unchanged, unless stated otherwise.",
            this::exceptionsChangeNothing);
        term("If several conditions of a method are fulfilled, the one that is listed first determines the exception.",
            this::firstCondition);
        namesNone("What it is", "A desk that tints paint: colorants in lots that are pumped in whole steps, bases with "
            + "limits, formulas in hundredths of steps whose remainders are carried from can to can, cans that tell "
            + "what is in them, corrections that only add, the least correction that reaches a colour, lots that are "
            + "recalled, a text format for formulas, reasons for what is refused, accounts, and undo.");
        holds("What it is", "An object is used for at most 512 calls after it has been made; what later calls answer "
            + "is free.", this::allCallsOfAnObject);
    }

    private void term(String words, Check.Call test) {
        holds("Terms", words, test);
    }

    /** Each kind of change, on a desk that is ready to mix and has can 0. */
    private static Desks.Change[] changes() {
        return new Desks.Change[] {d -> d.addColorant(1, 2, 3), d -> d.setLife(0, 61), d -> d.refill(0, 5, 5),
            d -> d.recall(0, 7), d -> d.pass(61), d -> d.addBase(1, 2, 3, 4), d -> d.setStock(0, 3),
            d -> Desks.formula(d, "b0:0=1"), d -> d.setAmount(0, 0, 251), d -> d.mix(0), d -> d.correct(0, 0, 5)};
    }

    /** Ready to mix, with can 0, a snapshot of that, and no change that is kept. */
    private static CountedDesk withoutChanges() {
        CountedDesk desk = Desks.readyToMix();
        desk.mix(0);
        desk.save();
        desk.restore();
        return desk;
    }

    private void whatAChangeIs() {
        String before = Desks.dump(withoutChanges());
        Desks.Change[] changes = changes();
        for (int i = 0; i < changes.length; i++) {
            CountedDesk desk = withoutChanges();
            changes[i].on(desk);
            same("change " + i + " does something", false, before.equals(Desks.dump(desk)));
            same("change " + i + " is the only one", 0, desk.undo());
            same("change " + i + " is undone", before, Desks.dump(desk));
            fails("change " + i + " is one change", BAD_STATE, desk::undo);
        }
        CountedDesk desk = withoutChanges();
        Desks.dump(desk);
        desk.append('b');
        desk.faultPosition();
        desk.possible(0);
        desk.least(0, 12, 22, 31, 0, 0);
        desk.hasLot(0, 0, 0);
        desk.canWith(0, 7, 0);
        desk.formulasWith(0, 7);
        desk.meanSteps(0);
        desk.save();
        fails("other calls are none", BAD_STATE, desk::undo);
    }

    private void latestEight() {
        for (int count = 0; count <= 20; count++) {
            CountedDesk desk = withoutChanges();
            for (int i = 0; i < count; i++) {
                desk.setStock(0, 50 + i);
            }
            int kept = Math.min(count, 8);
            for (int i = kept - 1; i >= 0; i--) {
                same("left of " + count, i, desk.undo());
            }
            fails("none is left of " + count, BAD_STATE, desk::undo);
            same("the desk then, of " + count, count <= 8 ? 8 : 50 + count - 9, desk.base(0, 4));
            desk.setStock(0, 1);
            same("a change behind them", 0, desk.undo());
        }
        eightKinds();
    }

    private void eightKinds() {
        Desks.Change[] changes = {d -> d.addColorant(1, 2, 3), d -> d.setLife(0, 9), d -> d.addBase(1, 2, 3, 4),
            d -> d.pass(1), d -> d.recall(0, 9), d -> d.refill(0, 5, 5), d -> d.setStock(0, 3),
            d -> Desks.formula(d, "b0:0=1"), d -> d.setAmount(0, 0, 251), d -> d.mix(0), d -> d.correct(0, 0, 5)};
        for (int count = 3; count < changes.length; count++) {
            CountedDesk desk = withoutChanges();
            String due = "";
            for (int i = 0; i < changes.length; i++) {
                due = i == count ? Desks.dump(desk) : due;
                changes[i].on(desk);
            }
            for (int i = count; i < changes.length; i++) {
                desk.undo();
            }
            same("the desk before change " + count, due, Desks.dump(desk));
        }
    }

    private void restoreForgets() {
        for (int count = 0; count <= 9; count++) {
            CountedDesk desk = withoutChanges();
            for (int i = 0; i < count; i++) {
                desk.setStock(0, 50 + i);
            }
            desk.restore();
            fails("none is kept of " + count, BAD_STATE, desk::undo);
            same("as it was saved", 8, desk.base(0, 4));
            desk.setStock(0, 1);
            desk.setStock(0, 2);
            same("later ones are kept", 1, desk.undo());
            same("they alone", 0, desk.undo());
            fails("and no others", BAD_STATE, desk::undo);
        }
    }

    private void whatStays() {
        CountedDesk desk = withoutChanges();
        desk.setStock(0, 1);
        desk.correct(0, 0, 4);
        Desks.type(desk, "b0:1");
        fails("a text", BAD_ARGUMENT, desk::readFormula);
        isRefused(4, desk, () -> desk.correct(0, 1, 2));
        desk.undo();
        same("undo leaves the fault position", 4, desk.faultPosition());
        same("undo leaves the reason", 4, desk.refusal());
        desk.recall(1, 1);
        isRefused(5, desk, () -> desk.correct(0, 1, 2));
        Desks.type(desk, "b0:0=12,1=3");
        desk.undo();
        same("undo leaves the colorant", 1, desk.lacking());
        desk.save();
        desk.setStock(0, 0);
        desk.append('4');
        desk.restore();
        same("restore leaves the fault position", 4, desk.faultPosition());
        same("restore leaves the reason", 5, desk.refusal());
        same("restore leaves the colorant", 1, desk.lacking());
        desk.setStock(0, 4);
        desk.undo();
        same("both leave the buffer", 1, desk.readFormula());
        same("as it was typed", 34, desk.amount(1, 1, false));
        same("the fault position is new", -1, desk.faultPosition());
        desk.undo();
        same("and stays so", -1, desk.faultPosition());
        fails("the buffer stays empty", BAD_ARGUMENT, desk::readFormula);
    }

    private void changesOfNothing() {
        Desks.Change[] changes = {d -> d.setLife(0, 60), d -> d.setStock(0, 8), d -> d.setAmount(0, 1, 133),
            d -> d.recall(0, 98)};
        for (int i = 0; i < changes.length; i++) {
            CountedDesk desk = Desks.readyToMix();
            desk.mix(0);
            desk.setAmount(0, 1, 133);
            desk.save();
            desk.restore();
            String before = Desks.dump(desk);
            changes[i].on(desk);
            same("all is as it was behind " + i, before, Desks.dump(desk));
            changes[i].on(desk);
            same("it is a change each time, " + i, 1, desk.undo());
            same("it can be undone, " + i, 0, desk.undo());
        }
    }

    private void recallOfNothing() {
        CountedDesk desk = withoutChanges();
        same("nothing goes", 0, desk.recall(0, 98));
        same("from an empty canister, either", 0, desk.recall(desk.addColorant(0, 0, 0), 0));
        same("the last one", 2, desk.undo());
        same("the colorant is still there", 3, desk.account(0));
        desk.undo();
        same("the first one", 0, desk.undo());
        fails("no more", BAD_STATE, desk::undo);
    }

    /** Eight changes that are kept, a snapshot that is another desk, a buffer, and a fault position. */
    private static CountedDesk withAllSortsOfState() {
        CountedDesk desk = Desks.readyToMix();
        desk.mix(0);
        desk.save();
        desk.restore();
        desk.setStock(0, 5);
        for (int i = 0; i < 9; i++) {
            desk.refill(1, i, 2);
        }
        desk.correct(0, 0, 3);
        try {
            Desks.type(desk, "b0:0=1+");
            desk.readFormula();
        } catch (IllegalArgumentException fault) {
            Desks.type(desk, "b0:0=7");
        }
        return desk;
    }

    private static String all(CountedDesk desk) {
        StringBuilder out = new StringBuilder(Desks.dump(desk));
        out.append("\nfault position ").append(desk.faultPosition()).append(", buffer ").append(desk.readFormula());
        out.append(' ').append(desk.amount(1, 0, false)).append(", undo ").append(desk.undo()).append(desk.undo());
        out.append(", then ").append(desk.account(5)).append(' ').append(desk.account(4));
        desk.restore();
        out.append(", saved ").append(desk.account(5)).append(' ').append(desk.account(4));
        return out.append(' ').append(desk.account(8)).toString();
    }

    private void exceptionsChangeNothing() {
        String due = all(withAllSortsOfState());
        Desks.Change[] badArguments = {d -> d.addColorant(1, 1, 10), d -> d.setLife(0, 0), d -> d.refill(0, 100, 5),
            d -> d.refill(0, 5, 501), d -> d.recall(0, -1), d -> d.colorant(0, 10), d -> d.lot(0, 0, 3),
            d -> d.pass(100), d -> d.pass(0), d -> d.addBase(1, 1, 1, 201), d -> d.setStock(0, 100),
            d -> d.base(0, 6), d -> d.setAmount(0, 0, 10000), d -> d.can(0, 6), d -> d.colour(0, 3),
            d -> d.correct(0, 0, 51), d -> d.least(0, 0, 0, 0, 100, -1), d -> d.hasLot(0, 0, 100),
            d -> d.canWith(0, 100, 0), d -> d.formulasWith(0, 100), d -> d.account(13)};
        stateStays(due, BAD_ARGUMENT, badArguments);
        Desks.Change[] noIndices = {d -> d.setLife(2, 5), d -> d.refill(2, 5, 5), d -> d.recall(2, 7),
            d -> d.colorant(2, 0), d -> d.lot(2, 0, 0), d -> d.setStock(1, 9), d -> d.base(1, 0),
            d -> d.setAmount(1, 0, 5), d -> d.setAmount(0, 2, 5), d -> d.amount(1, 0, true), d -> d.baseOf(1),
            d -> d.closest(1), d -> d.mix(1), d -> d.possible(1), d -> d.steps(1, 0), d -> d.can(1, 0),
            d -> d.colour(1, 0), d -> d.correct(1, 0, 1), d -> d.correct(0, 2, 1), d -> d.least(1, 0, 0, 0, 0, 0),
            d -> d.hasLot(1, 0, 0), d -> d.canWith(2, 0, 0), d -> d.formulasWith(2, 0), d -> d.labelLength(1),
            d -> d.label(1, 0), d -> d.meanSteps(1)};
        stateStays(due, NO_INDEX, noIndices);
        Desks.Change[] noElements = {d -> d.lot(0, 12, 0), d -> d.refusal(), d -> d.lacking(),
            d -> d.least(0, -1, -1, -1, 0, -1), d -> d.canWith(0, 7, 1), d -> d.label(0, 99)};
        stateStays(due, NO_ELEMENT, noElements);
        Desks.Change[] refused = {d -> d.refill(1, 5, 5), d -> d.correct(0, 0, 3), d -> d.mix(0)};
        stateStays(all(withNoRoom()), REFUSED, refused, ChangeBoundaries::withNoRoom);
        readingFaultsAndRefusals();
        nothingMoreIsMade();
    }

    private void nothingMoreIsMade() {
        CountedDesk desk = withFullLists();
        for (int i = 1; i < 10; i++) {
            Desks.formula(desk, "b0:0=0");
        }
        Desks.Change[] none = {d -> d.addColorant(0, 0, 0), d -> d.addBase(0, 0, 0, 0)};
        Desks.Change[] refused = {d -> d.mix(0), d -> d.refill(0, 0, 1), d -> d.correct(0, 0, 1),
            d -> Desks.formula(d, "b0:0=0")};
        desk.save();
        eachFails(desk, BAD_STATE, none);
        same("the latest change is a formula", 7, desk.undo());
        same("which is undone", 9, desk.account(2));
        desk.restore();
        eachFails(desk, REFUSED, refused);
        fails("none of them is a change", BAD_STATE, desk::undo);
        int[] due = {8, 6, 10, 20};
        for (int what = 0; what < 4; what++) {
            same("as many as before, " + what, due[what], desk.account(what));
        }
    }

    private interface Maker {
        CountedDesk make();
    }

    /** Canister 1 is full, can 0 takes two steps more, and the stock is used up. */
    private static CountedDesk withNoRoom() {
        CountedDesk desk = withAllSortsOfState();
        desk.refill(1, 60, 2);
        desk.refill(1, 61, 2);
        desk.setStock(0, 0);
        return desk;
    }

    private void stateStays(String due, Class<? extends RuntimeException> thrown, Desks.Change[] calls) {
        stateStays(due, thrown, calls, ChangeBoundaries::withAllSortsOfState);
    }

    private void stateStays(String due, Class<? extends RuntimeException> thrown, Desks.Change[] calls, Maker maker) {
        for (int i = 0; i < calls.length; i++) {
            CountedDesk desk = maker.make();
            Desks.Change call = calls[i];
            fails("call " + i, thrown, () -> call.on(desk));
            same("the state behind call " + i, due, all(desk));
        }
    }

    /** Of these it is stated that the buffer, the fault position and the reason do not stay. */
    private void readingFaultsAndRefusals() {
        String[] texts = {"b0:0=", "b1:0=1", "b0:2=1"};
        for (String text : texts) {
            CountedDesk desk = Desks.readyToMix();
            desk.mix(0);
            String due = Desks.dump(desk);
            Desks.type(desk, text);
            fails("reading " + text, text.length() == 5 ? BAD_ARGUMENT : REFUSED, desk::readFormula);
            same("the desk behind " + text, due, Desks.dump(desk));
            same("the changes behind " + text, 7, desk.undo());
            same("the latest one is the can", 0, desk.account(3));
        }
        CountedDesk desk = new CountedDesk();
        Desks.type(desk, "b0:0=1" + " ".repeat(54));
        fails("a sign more", BAD_STATE, () -> desk.append('1'));
        fails("the buffer is as before", BAD_ARGUMENT, desk::readFormula);
        same("up to its fault", 6, desk.faultPosition());
        fails("nothing to undo", BAD_STATE, desk::undo);
        fails("nothing to restore", BAD_STATE, desk::restore);
        same("the fault position stays", 6, desk.faultPosition());
    }

    private void firstCondition() {
        CountedDesk desk = withFullLists();
        Desks.Change[] badArguments = {d -> d.addColorant(0, 0, 10), d -> d.addBase(0, 0, 0, 201),
            d -> d.refill(0, 100, 1), d -> d.refill(0, 1, 501), d -> d.correct(0, 0, 51),
            d -> d.least(0, -1, 0, 0, 100, 0), d -> d.canWith(0, 100, 9)};
        Desks.Change[] noIndices = {d -> d.setLife(8, 0), d -> d.refill(8, 100, 501), d -> d.recall(8, 100),
            d -> d.colorant(8, 10), d -> d.lot(8, 99, 3), d -> d.setStock(6, 100), d -> d.base(6, 6),
            d -> d.setAmount(1, 0, 10000), d -> d.setAmount(0, 8, 10000), d -> d.mix(1), d -> d.can(20, 6),
            d -> d.colour(20, 3), d -> d.correct(20, 0, 51), d -> d.correct(0, 8, 51),
            d -> d.least(20, 0, 0, 0, 100, 0), d -> d.least(0, 0, 0, 0, 100, 8), d -> d.hasLot(20, 0, 100),
            d -> d.hasLot(0, 8, 100), d -> d.canWith(8, 100, 99), d -> d.formulasWith(8, 100), d -> d.label(20, 99),
            d -> d.meanSteps(1)};
        Desks.Change[] noElements = {d -> d.lot(0, 12, 3), d -> d.lot(0, -1, -1)};
        eachFails(desk, BAD_ARGUMENT, badArguments);
        eachFails(desk, NO_INDEX, noIndices);
        eachFails(desk, NO_ELEMENT, noElements);
        fails("none of them was refused", NO_ELEMENT, desk::refusal);
        Desks.type(desk, "b9:9=00");
        fails("a fault comes before what is not there", BAD_ARGUMENT, desk::readFormula);
        fails("and is not refused", NO_ELEMENT, desk::refusal);
    }

    private void eachFails(CountedDesk desk, Class<? extends RuntimeException> due, Desks.Change[] calls) {
        for (int i = 0; i < calls.length; i++) {
            Desks.Change call = calls[i];
            fails("call " + i, due, () -> call.on(desk));
        }
    }

    /** 8 colorants, 6 bases, 20 cans without room, and 12 lots in canister 0. */
    private static CountedDesk withFullLists() {
        CountedDesk desk = Desks.stocked(8, 0);
        for (int i = 1; i < 12; i++) {
            desk.refill(0, i, 1);
        }
        for (int i = 1; i < 6; i++) {
            desk.addBase(0, 0, 0, 0);
        }
        Desks.formula(desk, "b0:0=0");
        for (int i = 0; i < 20; i++) {
            desk.mix(0);
        }
        return desk;
    }

    private void allCallsOfAnObject() {
        CountedDesk desk = Desks.stocked(2, 200);
        Desks.formula(desk, "b0:0=50,1=150");
        for (int i = 0; i < 20; i++) {
            desk.mix(0);
        }
        int stock = 0;
        while (desk.callsLeft() > 4) {
            stock = (stock + 1) % 100;
            desk.setStock(0, stock);
        }
        same("the stock before", stock, desk.setStock(0, 7));
        same("a change is kept", 7, desk.undo());
        same("a can", 'b', desk.label(19, 0));
        same("no call is left but one", 1, desk.callsLeft());
        same("call 512", stock, desk.base(0, 4));
    }
}

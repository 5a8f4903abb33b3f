/** Promises 34 to 37. */
public final class AccountsAndUndoTest {
    private static final Class<IllegalArgumentException> BAD_ARGUMENT = IllegalArgumentException.class;
    private static final Class<IllegalStateException> BAD_STATE = IllegalStateException.class;
    private static final Check CHECK = new Check();

    public static void main(String[] args) {
        account();
        accountOfAFullDesk();
        undoOfEachChange();
        undoOfEight();
        undoAfterExceptions();
        undoLeavesTheRest();
        saveAndRestore();
        restoreOverOtherThings();
        restoreForgetsChanges();
        restoreLeavesTheRest();
        CHECK.end();
    }

    private static void account() {
        CountedDesk desk = Desks.readyToMix();
        desk.addBase(0, 0, 0, 9);
        desk.setStock(1, 4);
        Desks.formula(desk, "b1:0=110");
        desk.mix(0);
        desk.mix(1);
        desk.correct(0, 1, 2);
        desk.correct(1, 1, 3);
        desk.correct(1, 1, 1);
        desk.recall(0, 9);
        desk.setLife(1, 1);
        desk.refill(1, 5, 6);
        desk.pass(3);
        int[] due = {2, 2, 2, 2, 63, 10, 83, 4, 11, 3, 93, 6, 3};
        for (int what = 0; what <= 12; what++) {
            CHECK.same("34: account " + what, due[what], desk.account(what));
        }
        CHECK.fails("34: what -1", BAD_ARGUMENT, () -> desk.account(-1));
        CHECK.fails("34: what 13", BAD_ARGUMENT, () -> desk.account(13));
    }

    private static void accountOfAFullDesk() {
        CountedDesk desk = new CountedDesk();
        for (int i = 0; i < 8; i++) {
            desk.addColorant(i, i, i);
            desk.refill(i, i, 100);
        }
        for (int i = 0; i < 6; i++) {
            desk.addBase(i, i, i, 200);
            desk.setStock(i, 99);
        }
        for (int i = 0; i < 10; i++) {
            Desks.formula(desk, "b5:0=" + (i + 101) + ",7=110");
        }
        for (int i = 0; i < 20; i++) {
            desk.mix(i % 10);
        }
        int[] due = {8, 6, 10, 20, 760, 40, 800, 0, 574, 0, 310, 0, 0};
        for (int what = 0; what <= 12; what++) {
            CHECK.same("34: account " + what + " of a full desk", due[what], desk.account(what));
        }
        CHECK.same("30: all formulas", 1023, desk.formulasWith(7, 7));
        CHECK.same("29: the last can", 19, desk.canWith(7, 7, 19));
        CHECK.fails("29: no can more", java.util.NoSuchElementException.class, () -> desk.canWith(7, 7, 20));
        CHECK.same("33: the last formula", 2.0, desk.meanSteps(9));
        CHECK.same("18: the first formula", 0, desk.closest(19));
        CHECK.same("8: all lots go", 760, desk.pass(61));
    }

    private static void undoOfEachChange() {
        Desks.Change[] changes = {d -> d.addColorant(1, 2, 3), d -> d.setLife(0, 60), d -> d.refill(0, 5, 5),
            d -> d.recall(0, 7), d -> d.recall(0, 99), d -> d.pass(99), d -> d.addBase(1, 2, 3, 4),
            d -> d.setStock(0, 8), d -> Desks.formula(d, "b0:0=1"), d -> d.setAmount(0, 0, 250), d -> d.mix(0),
            d -> d.correct(0, 0, 5)};
        for (int i = 0; i < changes.length; i++) {
            CountedDesk desk = Desks.readyToMix();
            desk.mix(0);
            String before = Desks.dump(desk);
            changes[i].on(desk);
            CHECK.same("35: change " + i + " is kept", 7, desk.undo());
            CHECK.same("35: change " + i + " is undone, and it alone", before, Desks.dump(desk));
        }
    }

    private static void undoOfEight() {
        CountedDesk desk = new CountedDesk();
        CHECK.fails("35: nothing is kept", BAD_STATE, desk::undo);
        for (int i = 0; i < 5; i++) {
            desk.addColorant(i, 0, 0);
        }
        CHECK.same("35: four more", 4, desk.undo());
        for (int i = 0; i < 12; i++) {
            desk.refill(i % 4, i, i + 1);
        }
        for (int i = 11; i >= 4; i--) {
            CHECK.same("35: how many more", i - 4, desk.undo());
            CHECK.same("35: the steps before " + i, i * (i + 1) / 2, desk.account(4));
            CHECK.same("35: the lots of the colorant before " + i, i / 4, desk.colorant(i % 4, 4));
        }
        CHECK.fails("35: a ninth", BAD_STATE, desk::undo);
        CHECK.same("35: it changed nothing", 10, desk.account(4));
        desk.setLife(0, 3);
        desk.setLife(0, 4);
        CHECK.same("35: new changes", 1, desk.undo());
        CHECK.same("35: the life between", 3, desk.colorant(0, 9));
        CHECK.same("35: and before", 0, desk.undo());
        CHECK.same("35: the life at first", 60, desk.colorant(0, 9));
    }

    private static void undoAfterExceptions() {
        CountedDesk desk = Desks.withTwoColorants();
        Desks.formula(desk, "b0:0=900");
        desk.save();
        desk.restore();
        CHECK.fails("35: bad arguments", BAD_ARGUMENT, () -> desk.setStock(0, 100));
        CHECK.fails("35: refusals", UnsupportedOperationException.class, () -> desk.mix(0));
        Desks.type(desk, "x");
        CHECK.fails("35: faults", BAD_ARGUMENT, desk::readFormula);
        desk.possible(0);
        desk.save();
        CHECK.fails("35: are no changes", BAD_STATE, desk::undo);
    }

    private static void undoLeavesTheRest() {
        CountedDesk desk = Desks.withTwoColorants();
        desk.setStock(0, 0);
        Desks.formula(desk, "b0:0=100");
        CHECK.fails("35: refused", UnsupportedOperationException.class, () -> desk.mix(0));
        Desks.type(desk, "b0:0=+");
        CHECK.fails("35: a fault", BAD_ARGUMENT, desk::readFormula);
        Desks.type(desk, "b0:0");
        desk.save();
        desk.undo();
        CHECK.same("35: the reason stays", 3, desk.refusal());
        CHECK.same("35: the fault position stays", 5, desk.faultPosition());
        CHECK.same("35: the formula goes", 0, desk.account(2));
        Desks.type(desk, "=7");
        CHECK.same("35: the buffer stays", 0, desk.readFormula());
        CHECK.same("35: and can be read", 7, desk.amount(0, 0, false));
        desk.restore();
        CHECK.same("35: the snapshot stays", 100, desk.amount(0, 0, false));
    }

    private static void saveAndRestore() {
        CountedDesk desk = Desks.readyToMix();
        CHECK.fails("37: no snapshot", BAD_STATE, desk::restore);
        CHECK.same("37: that forgets nothing", 7, desk.undo());
        Desks.formula(desk, "b0:0=250,1=133");
        desk.mix(0);
        desk.pass(5);
        String saved = Desks.dump(desk);
        desk.save();
        for (int round = 0; round < 2; round++) {
            desk.mix(0);
            desk.correct(0, 0, 1);
            desk.addColorant(0, 0, 0);
            desk.addBase(0, 0, 0, 0);
            desk.pass(90);
            desk.restore();
            CHECK.same("37: as saved", saved, Desks.dump(desk));
        }
        desk.setLife(1, 7);
        String later = Desks.dump(desk);
        desk.save();
        desk.recall(0, 7);
        desk.restore();
        CHECK.same("36: in place of the earlier one", later, Desks.dump(desk));
        CountedDesk empty = new CountedDesk();
        empty.save();
        empty.addColorant(1, 1, 1);
        empty.restore();
        CHECK.same("36: a new desk", 0, empty.account(0));
    }

    /** Everything on the desk is another one when it is restored. */
    private static void restoreOverOtherThings() {
        CountedDesk desk = Desks.withOneOfEach();
        desk.addBase(14, 15, 16, 50);
        String saved = Desks.dump(desk);
        desk.save();
        for (int i = 6; i >= 0; i--) {
            CHECK.same("35: back to the new desk", i, desk.undo());
        }
        CHECK.same("35: which is empty", Desks.dump(new CountedDesk()), Desks.dump(desk));
        Desks.makeOtherThings(desk);
        desk.restore();
        CHECK.same("37: all as saved", saved, Desks.dump(desk));
        CHECK.same("37: lots in cans, too", true, desk.hasLot(0, 0, 99));
        CHECK.same("37: and no others", false, desk.hasLot(0, 0, 5));
    }

    private static void restoreForgetsChanges() {
        CountedDesk desk = Desks.readyToMix();
        desk.save();
        desk.setStock(0, 1);
        CHECK.same("36: save keeps the changes", 7, desk.undo());
        desk.restore();
        CHECK.fails("37: restore forgets them", BAD_STATE, desk::undo);
        for (int i = 0; i < 9; i++) {
            desk.setStock(0, i);
        }
        for (int i = 7; i >= 0; i--) {
            CHECK.same("37: changes after it are kept", i, desk.undo());
            CHECK.same("37: with their desks", i, desk.base(0, 4));
        }
    }

    private static void restoreLeavesTheRest() {
        CountedDesk desk = Desks.withTwoColorants();
        Desks.formula(desk, "b0:1=100");
        Desks.type(desk, "b0");
        desk.save();
        CHECK.fails("37: a fault", BAD_ARGUMENT, desk::readFormula);
        CHECK.fails("37: refused", UnsupportedOperationException.class, () -> desk.mix(0));
        Desks.type(desk, "b0:1=2");
        desk.restore();
        CHECK.same("37: the fault position stays", 2, desk.faultPosition());
        CHECK.same("37: the reason stays", 5, desk.refusal());
        CHECK.same("37: the colorant stays", 1, desk.lacking());
        desk.append('3');
        CHECK.same("37: the buffer stays", 1, desk.readFormula());
        CHECK.same("37: and can be read", 23, desk.amount(1, 1, false));
    }
}

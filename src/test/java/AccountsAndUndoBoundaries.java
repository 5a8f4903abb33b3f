/** Promises 34 to 37, sentence by sentence. */
final class AccountsAndUndoBoundaries extends Boundaries {
    AccountsAndUndoBoundaries(Sentences sentences, Check check) {
        super(sentences, check);
    }

    @Override
    void tell() {
        namesNone("Promise 34", "Returns an account.", "Returns the number.");
        promise(34, "- `what`: 0 for the colorants, 1 for the bases, 2 for the formulas, 3 for the cans, 4 for the steps "
            + "in all canisters, 5 for those in all cans, 6 for all that were refilled, 7 for all that were recalled, 8 "
            + "for the stock of all bases, 9 for all corrections, 10 for all carries, 11 for all steps that were wasted, "
            + "12 for today", this::accounts);
        throwsIf(34, BAD_ARGUMENT, "what is not from 0 to 12", () -> {
            CountedDesk desk = new CountedDesk();
            failsOutside(0, 12, BAD_ARGUMENT, desk::account);
            same("the first", 0, desk.account(0));
            same("the last", 0, desk.account(12));
        });
        promise(35, "Undoes the latest change that is kept.", this::undoOfTheLatest);
        promise(35, "Returns the number of changes that can still be undone.", this::changesLeft);
        throwsIf(35, BAD_STATE, "no change is kept", this::noChange);
        promise(36, "Saves the desk, in place of an earlier snapshot.", this::laterSnapshots);
        promise(37, "Restores what was saved; the snapshot is kept.", this::snapshotIsKept);
        throwsIf(37, BAD_STATE, "there is no snapshot", this::noSnapshot);
    }

    private void accounts() {
        accountsAre(new CountedDesk(), 0, 0, 0, 0, 0, 0, 0, 0, 0, 0, 0, 0, 0);
        CountedDesk desk = Desks.holding(8, 6, 10, 20);
        accountsAre(desk, 8, 6, 10, 20, 766, 34, 800, 0, 574, 0, 0, 0, 0);
        desk.correct(19, 7, 50);
        desk.correct(0, 0, 1);
        accountsAre(desk, 8, 6, 10, 20, 715, 85, 800, 0, 574, 2, 0, 0, 0);
        desk.recall(7, 5);
        desk.setLife(6, 1);
        desk.refill(6, 1, 500);
        desk.setStock(5, 0);
        desk.pass(59);
        accountsAre(desk, 8, 6, 10, 20, 667, 85, 1300, 48, 477, 2, 0, 500, 59);
        desk.pass(99);
        accountsAre(desk, 8, 6, 10, 20, 0, 85, 1300, 48, 477, 2, 0, 1167, 158);
        CountedDesk carries = Desks.stocked(8, 200);
        Desks.formula(carries, "b0:0=99,1=99,2=99,3=99,4=99,5=99,6=99,7=99");
        Desks.formula(carries, "b0:7=9999");
        carries.mix(0);
        carries.mix(1);
        same("the greatest carries, of two formulas", 891, carries.account(10));
    }

    private void accountsAre(CountedDesk desk, int... due) {
        for (int what = 0; what <= 12; what++) {
            same("account " + what, due[what], desk.account(what));
        }
    }

    private void undoOfTheLatest() {
        CountedDesk desk = Desks.readyToMix();
        String first = Desks.dump(desk);
        desk.mix(0);
        String second = Desks.dump(desk);
        desk.correct(0, 0, 5);
        desk.undo();
        same("the latest one", second, Desks.dump(desk));
        desk.undo();
        same("the one before", first, Desks.dump(desk));
        desk.undo();
        same("the one before that", 0, desk.account(2));
        desk.recall(1, 1);
        desk.undo();
        same("a later one", 50, desk.colorant(1, 3));
        desk.undo();
        same("and the one before it", 0, desk.colorant(1, 3));
        CountedDesk full = Desks.holding(8, 1, 1, 1);
        full.refill(7, 98, 1);
        full.recall(7, 5);
        full.correct(0, 7, 1);
        full.undo();
        same("the steps in cans, too", 1, full.steps(0, 7));
        same("and the lots in cans", false, full.hasLot(0, 7, 98));
        same("those that stay", true, full.hasLot(0, 7, 5));
    }

    private void changesLeft() {
        for (int count = 1; count <= 20; count++) {
            CountedDesk desk = new CountedDesk();
            desk.addBase(0, 0, 0, 0);
            for (int i = 1; i < count; i++) {
                desk.setStock(0, i);
            }
            for (int i = Math.min(count, 8) - 1; i >= 0; i--) {
                same("left of " + count, i, desk.undo());
            }
        }
        CountedDesk desk = Desks.readyToMix();
        same("left of more than eight", 7, desk.undo());
        same("once more", 6, desk.undo());
        desk.refill(1, 2, 3);
        same("behind a new change", 6, desk.undo());
        for (int i = 0; i < 8; i++) {
            desk.refill(1, 2, 3);
        }
        same("behind eight new changes", 7, desk.undo());
    }

    private void noChange() {
        CountedDesk desk = new CountedDesk();
        fails("of a new desk", BAD_STATE, desk::undo);
        desk.addBase(0, 0, 0, 0);
        desk.undo();
        fails("all are undone", BAD_STATE, desk::undo);
        desk.save();
        desk.addBase(0, 0, 0, 0);
        desk.restore();
        fails("restore forgot it", BAD_STATE, desk::undo);
        CountedDesk later = Desks.readyToMix();
        for (int i = 0; i < 8; i++) {
            later.undo();
        }
        fails("only eight were kept", BAD_STATE, later::undo);
        same("the first change stays", 1, later.account(0));
    }

    private void laterSnapshots() {
        CountedDesk desk = new CountedDesk();
        desk.save();
        desk.addBase(1, 1, 1, 1);
        desk.restore();
        same("a new desk", 0, desk.account(1));
        desk.addBase(1, 1, 1, 1);
        desk.setStock(0, 40);
        desk.save();
        desk.setStock(0, 50);
        same("saving keeps the changes", 2, desk.undo());
        desk.setStock(0, 60);
        desk.restore();
        same("the later one", 40, desk.base(0, 4));
        desk.setStock(0, 70);
        desk.save();
        desk.undo();
        same("undo leaves the snapshot", 40, desk.base(0, 4));
        desk.restore();
        same("as it is here", 70, desk.base(0, 4));
    }

    private void snapshotIsKept() {
        CountedDesk desk = Desks.readyToMix();
        desk.mix(0);
        String saved = Desks.dump(desk);
        desk.save();
        for (int round = 0; round < 2; round++) {
            desk.mix(0);
            desk.addColorant(0, 0, 0);
            desk.pass(99);
            desk.restore();
            same("as it was saved, " + round, saved, Desks.dump(desk));
        }
        desk.restore();
        same("at once again", 1, desk.account(3));
        aFullDeskAgain();
        overOtherThings();
    }

    private void aFullDeskAgain() {
        CountedDesk full = Desks.holding(8, 6, 10, 20);
        same("undone", 7, full.undo());
        full.save();
        full.mix(0);
        full.correct(19, 7, 50);
        full.restore();
        same("a full one", 19, full.account(3));
        same("its canisters", 767, full.account(4));
        same("its stock", 575, full.account(8));
        same("the last can again", 19, full.mix(9));
        same("without the correction", 1, full.can(19, 2));
        same("and without its lots", false, full.hasLot(19, 7, 5));
    }

    /** All that was saved is undone first, and made anew in another way. */
    private void overOtherThings() {
        CountedDesk desk = Desks.withOneOfEach();
        String saved = Desks.dump(desk);
        desk.save();
        for (int i = 5; i >= 0; i--) {
            same("back to the new desk", i, desk.undo());
        }
        same("which is empty", Desks.dump(new CountedDesk()), Desks.dump(desk));
        Desks.makeOtherThings(desk);
        desk.restore();
        same("all is as it was saved", saved, Desks.dump(desk));
        same("its lot is in the can", true, desk.hasLot(0, 0, 99));
        same("the other one is not", false, desk.hasLot(0, 0, 5));
    }

    private void noSnapshot() {
        CountedDesk desk = new CountedDesk();
        fails("of a new desk", BAD_STATE, desk::restore);
        desk.addBase(0, 0, 0, 0);
        desk.undo();
        desk.addBase(0, 0, 0, 0);
        fails("of a changed desk", BAD_STATE, desk::restore);
        same("it forgets nothing", 0, desk.undo());
        desk.save();
        desk.restore();
        same("with a snapshot", 0, desk.account(1));
    }
}

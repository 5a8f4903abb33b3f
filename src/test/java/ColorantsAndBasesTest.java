import java.util.NoSuchElementException;

/** Promises 1 to 11. */
public final class ColorantsAndBasesTest {
    private static final Class<IndexOutOfBoundsException> NO_INDEX = IndexOutOfBoundsException.class;
    private static final Class<IllegalArgumentException> BAD_ARGUMENT = IllegalArgumentException.class;
    private static final Class<IllegalStateException> BAD_STATE = IllegalStateException.class;
    private static final Class<UnsupportedOperationException> REFUSED = UnsupportedOperationException.class;
    private static final Class<NoSuchElementException> NO_ELEMENT = NoSuchElementException.class;
    private static final Check CHECK = new Check();

    public static void main(String[] args) {
        newObject();
        addColorant();
        setLife();
        refill();
        refillWhenFull();
        recall();
        colorant();
        lot();
        pass();
        passKeepsEachLotByItsOwnLife();
        addBase();
        setStock();
        base();
        CHECK.end();
    }

    private static void newObject() {
        CountedDesk desk = new CountedDesk();
        for (int what = 0; what <= 12; what++) {
            CHECK.same("1: account of a new desk " + what, 0, desk.account(what));
        }
        CHECK.same("1: faultPosition", -1, desk.faultPosition());
        CHECK.fails("1: refusal", NO_ELEMENT, desk::refusal);
        CHECK.fails("1: lacking", NO_ELEMENT, desk::lacking);
        CHECK.fails("1: undo", BAD_STATE, desk::undo);
        CHECK.fails("1: restore", BAD_STATE, desk::restore);
        CHECK.fails("1: colorant", NO_INDEX, () -> desk.colorant(0, 0));
        CHECK.fails("1: base", NO_INDEX, () -> desk.base(0, 0));
        CHECK.fails("1: baseOf", NO_INDEX, () -> desk.baseOf(0));
        CHECK.fails("1: can", NO_INDEX, () -> desk.can(0, 0));
    }

    private static void addColorant() {
        CountedDesk desk = new CountedDesk();
        int[][] bad = {{-1, 0, 0}, {10, 0, 0}, {0, -1, 0}, {0, 10, 0}, {0, 0, -1}, {0, 0, 10},
            {Integer.MAX_VALUE, 0, 0}, {0, Integer.MIN_VALUE, 0}};
        for (int[] v : bad) {
            CHECK.fails("2: a value out of range", BAD_ARGUMENT, () -> desk.addColorant(v[0], v[1], v[2]));
        }
        CHECK.same("2: none was made", 0, desk.account(0));
        for (int i = 0; i < 8; i++) {
            CHECK.same("2: number", i, desk.addColorant(i, 9 - i, i == 7 ? 9 : 0));
        }
        CHECK.same("2: axis 0", 7, desk.colorant(7, 0));
        CHECK.same("2: axis 1", 2, desk.colorant(7, 1));
        CHECK.same("2: axis 2", 9, desk.colorant(7, 2));
        CHECK.fails("2: a ninth colorant", BAD_STATE, () -> desk.addColorant(0, 0, 0));
        CHECK.fails("2: range before count", BAD_ARGUMENT, () -> desk.addColorant(0, 0, 10));
        CHECK.same("2: eight were made", 8, desk.account(0));
    }

    private static void setLife() {
        CountedDesk desk = new CountedDesk();
        CHECK.fails("3: no colorant", NO_INDEX, () -> desk.setLife(0, 5));
        desk.addColorant(0, 0, 0);
        CHECK.fails("3: colorant -1", NO_INDEX, () -> desk.setLife(-1, 0));
        CHECK.fails("3: colorant 1", NO_INDEX, () -> desk.setLife(1, 0));
        CHECK.fails("3: life 0", BAD_ARGUMENT, () -> desk.setLife(0, 0));
        CHECK.fails("3: life 100", BAD_ARGUMENT, () -> desk.setLife(0, 100));
        desk.refill(0, 1, 1);
        CHECK.same("3: the first life", 60, desk.setLife(0, 1));
        desk.refill(0, 2, 1);
        CHECK.same("3: the life before", 1, desk.setLife(0, 99));
        desk.refill(0, 3, 1);
        CHECK.same("3: the life now", 99, desk.colorant(0, 9));
        CHECK.same("3: a lot from before", 60, desk.lot(0, 0, 2));
        CHECK.same("3: a lot from between", 1, desk.lot(0, 1, 2));
        CHECK.same("3: a lot from after", 99, desk.lot(0, 2, 2));
    }

    private static void refill() {
        CountedDesk desk = new CountedDesk();
        CHECK.fails("4: no colorant", NO_INDEX, () -> desk.refill(0, -1, 0));
        desk.addColorant(0, 0, 0);
        desk.addColorant(0, 0, 0);
        CHECK.fails("4: colorant -1", NO_INDEX, () -> desk.refill(-1, 0, 1));
        CHECK.fails("4: colorant 2", NO_INDEX, () -> desk.refill(2, 0, 1));
        CHECK.fails("4: lot -1", BAD_ARGUMENT, () -> desk.refill(0, -1, 1));
        CHECK.fails("4: lot 100", BAD_ARGUMENT, () -> desk.refill(0, 100, 1));
        CHECK.fails("4: steps 0", BAD_ARGUMENT, () -> desk.refill(0, 0, 0));
        CHECK.fails("4: steps 501", BAD_ARGUMENT, () -> desk.refill(0, 0, 501));
        CHECK.same("4: first", 500, desk.refill(0, 99, 500));
        CHECK.same("4: the same number again", 501, desk.refill(0, 99, 1));
        CHECK.same("4: another canister", 3, desk.refill(1, 0, 3));
        CHECK.same("4: a lot of its own", 2, desk.colorant(0, 4));
        CHECK.same("4: behind the others", 1, desk.lot(0, 1, 1));
        CHECK.same("4: refilled", 501, desk.colorant(0, 5));
    }

    private static void refillWhenFull() {
        CountedDesk desk = new CountedDesk();
        desk.addColorant(0, 0, 0);
        for (int i = 0; i < 12; i++) {
            CHECK.same("4: lot " + i, i + 1, desk.refill(0, 5, 1));
        }
        CHECK.fails("4: no reason yet", NO_ELEMENT, desk::refusal);
        CHECK.fails("4: range before refusal", BAD_ARGUMENT, () -> desk.refill(0, 5, 501));
        CHECK.fails("4: range keeps no reason", NO_ELEMENT, desk::refusal);
        CHECK.fails("4: a thirteenth lot", REFUSED, () -> desk.refill(0, 5, 1));
        CHECK.same("4: reason", 2, desk.refusal());
        CHECK.fails("4: nothing lacks", NO_ELEMENT, desk::lacking);
        CHECK.same("4: still twelve", 12, desk.colorant(0, 3));
        CHECK.same("4: refilled", 12, desk.colorant(0, 5));
        desk.recall(0, 5);
        CHECK.same("4: again after a recall", 2, desk.refill(0, 5, 2));
    }

    private static void recall() {
        CountedDesk desk = new CountedDesk();
        CHECK.fails("5: no colorant", NO_INDEX, () -> desk.recall(0, -1));
        desk.addColorant(0, 0, 0);
        CHECK.fails("5: lot -1", BAD_ARGUMENT, () -> desk.recall(0, -1));
        CHECK.fails("5: lot 100", BAD_ARGUMENT, () -> desk.recall(0, 100));
        int[][] lots = {{7, 3}, {7, 4}, {9, 5}, {7, 6}, {8, 1}, {7, 2}};
        for (int[] lot : lots) {
            desk.refill(0, lot[0], lot[1]);
        }
        CHECK.same("5: all with the number", 15, desk.recall(0, 7));
        CHECK.same("5: two are left", 2, desk.colorant(0, 4));
        CHECK.same("5: in their order", 9, desk.lot(0, 0, 0));
        CHECK.same("5: with their steps", 1, desk.lot(0, 1, 1));
        CHECK.same("5: a lot that is not there", 0, desk.recall(0, 99));
        CHECK.same("5: recalled", 15, desk.colorant(0, 7));
        CHECK.same("5: not wasted", 0, desk.colorant(0, 8));
        CHECK.same("5: not pumped", 0, desk.colorant(0, 6));
        CHECK.same("5: it is a change, too", 7, desk.undo());
        CHECK.same("5: undone", 15, desk.colorant(0, 7));
    }

    private static void colorant() {
        CountedDesk desk = Desks.readyToMix();
        desk.refill(1, 2, 5);
        desk.setLife(1, 40);
        desk.mix(0);
        desk.correct(0, 1, 2);
        desk.recall(1, 2);
        desk.pass(61);
        desk.refill(1, 3, 11);
        int[] due = {0, 2, 1, 11, 1, 66, 3, 5, 47, 40};
        for (int what = 0; what <= 9; what++) {
            CHECK.same("6: colorant 1, " + what, due[what], desk.colorant(1, what));
        }
        CHECK.fails("6: what -1", BAD_ARGUMENT, () -> desk.colorant(1, -1));
        CHECK.fails("6: what 10", BAD_ARGUMENT, () -> desk.colorant(1, 10));
        CHECK.fails("6: colorant 2", NO_INDEX, () -> desk.colorant(2, 10));
        CHECK.fails("6: colorant -1", NO_INDEX, () -> desk.colorant(-1, 0));
    }

    private static void lot() {
        CountedDesk desk = new CountedDesk();
        CHECK.fails("7: no colorant", NO_INDEX, () -> desk.lot(0, 0, 0));
        desk.addColorant(0, 0, 0);
        CHECK.fails("7: no lot", NO_ELEMENT, () -> desk.lot(0, 0, 3));
        desk.pass(7);
        desk.refill(0, 33, 44);
        desk.refill(0, 34, 45);
        CHECK.same("7: number", 33, desk.lot(0, 0, 0));
        CHECK.same("7: steps", 44, desk.lot(0, 0, 1));
        CHECK.same("7: last day", 67, desk.lot(0, 0, 2));
        CHECK.same("7: number of the second", 34, desk.lot(0, 1, 0));
        CHECK.fails("7: index -1", NO_ELEMENT, () -> desk.lot(0, -1, 0));
        CHECK.fails("7: index 2", NO_ELEMENT, () -> desk.lot(0, 2, 3));
        CHECK.fails("7: index 12", NO_ELEMENT, () -> desk.lot(0, 12, 0));
        CHECK.fails("7: what -1", BAD_ARGUMENT, () -> desk.lot(0, 0, -1));
        CHECK.fails("7: what 3", BAD_ARGUMENT, () -> desk.lot(0, 0, 3));
        CHECK.fails("7: colorant 1", NO_INDEX, () -> desk.lot(1, -1, 3));
    }

    private static void pass() {
        CountedDesk desk = new CountedDesk();
        int[] bad = {0, -1, 100, Integer.MAX_VALUE, Integer.MIN_VALUE};
        for (int days : bad) {
            CHECK.fails("8: days " + days, BAD_ARGUMENT, () -> desk.pass(days));
        }
        desk.addColorant(0, 0, 0);
        desk.refill(0, 1, 10);
        CHECK.same("8: up to the last day", 0, desk.pass(60));
        CHECK.same("8: still there", 10, desk.colorant(0, 3));
        CHECK.same("8: the day behind it", 10, desk.pass(1));
        CHECK.same("8: gone", 0, desk.colorant(0, 4));
        CHECK.same("8: wasted", 10, desk.colorant(0, 8));
        CHECK.same("8: today", 61, desk.account(12));
        desk.pass(99);
        desk.pass(99);
        desk.pass(99);
        CHECK.same("8: today", 358, desk.account(12));
        CHECK.fails("8: day 401", BAD_ARGUMENT, () -> desk.pass(43));
        CHECK.same("8: day 400", 0, desk.pass(42));
        CHECK.fails("8: no day more", BAD_ARGUMENT, () -> desk.pass(1));
        CHECK.same("8: today", 400, desk.account(12));
    }

    private static void passKeepsEachLotByItsOwnLife() {
        CountedDesk desk = new CountedDesk();
        desk.addColorant(0, 0, 0);
        desk.addColorant(0, 0, 0);
        desk.setLife(0, 9);
        desk.refill(0, 1, 1);
        desk.setLife(0, 2);
        desk.refill(0, 2, 2);
        desk.setLife(0, 5);
        desk.refill(0, 3, 4);
        desk.setLife(1, 1);
        desk.refill(1, 4, 8);
        CHECK.same("8: of several colorants", 10, desk.pass(3));
        CHECK.same("8: what is left", 2, desk.colorant(0, 4));
        CHECK.same("8: first one", 1, desk.lot(0, 0, 0));
        CHECK.same("8: second one", 3, desk.lot(0, 1, 0));
        CHECK.same("8: with its last day", 5, desk.lot(0, 1, 2));
        CHECK.same("8: later", 5, desk.pass(99));
        CHECK.same("8: wasted in all", 15, desk.account(11));
    }

    private static void addBase() {
        CountedDesk desk = new CountedDesk();
        int[][] bad = {{-1, 0, 0, 0}, {100, 0, 0, 0}, {0, -1, 0, 0}, {0, 100, 0, 0}, {0, 0, -1, 0},
            {0, 0, 100, 0}, {0, 0, 0, -1}, {0, 0, 0, 201}};
        for (int[] v : bad) {
            CHECK.fails("9: out of range", BAD_ARGUMENT, () -> desk.addBase(v[0], v[1], v[2], v[3]));
        }
        for (int i = 0; i < 6; i++) {
            CHECK.same("9: number", i, desk.addBase(99, i, 0, i == 0 ? 0 : 200));
        }
        CHECK.fails("9: a seventh base", BAD_STATE, () -> desk.addBase(0, 0, 0, 0));
        CHECK.fails("9: range before count", BAD_ARGUMENT, () -> desk.addBase(0, 0, 0, 201));
        CHECK.same("9: six were made", 6, desk.account(1));
    }

    private static void setStock() {
        CountedDesk desk = new CountedDesk();
        CHECK.fails("10: no base", NO_INDEX, () -> desk.setStock(0, -1));
        desk.addBase(0, 0, 0, 0);
        CHECK.fails("10: base -1", NO_INDEX, () -> desk.setStock(-1, 0));
        CHECK.fails("10: base 1", NO_INDEX, () -> desk.setStock(1, 100));
        CHECK.fails("10: stock -1", BAD_ARGUMENT, () -> desk.setStock(0, -1));
        CHECK.fails("10: stock 100", BAD_ARGUMENT, () -> desk.setStock(0, 100));
        CHECK.same("10: at first", 0, desk.setStock(0, 99));
        CHECK.same("10: the stock before", 99, desk.setStock(0, 0));
        CHECK.same("10: the stock before", 0, desk.setStock(0, 5));
        CHECK.same("10: the stock now", 5, desk.base(0, 4));
    }

    private static void base() {
        CountedDesk desk = Desks.readyToMix();
        desk.addBase(1, 2, 3, 4);
        desk.mix(0);
        desk.mix(0);
        int[] due = {10, 20, 30, 8, 7, 2};
        int[] dueOther = {1, 2, 3, 4, 0, 0};
        for (int what = 0; what <= 5; what++) {
            CHECK.same("11: base 0, " + what, due[what], desk.base(0, what));
            CHECK.same("11: base 1, " + what, dueOther[what], desk.base(1, what));
        }
        CHECK.fails("11: what -1", BAD_ARGUMENT, () -> desk.base(0, -1));
        CHECK.fails("11: what 6", BAD_ARGUMENT, () -> desk.base(0, 6));
        CHECK.fails("11: base 2", NO_INDEX, () -> desk.base(2, 6));
        CHECK.fails("11: base -1", NO_INDEX, () -> desk.base(-1, 0));
    }
}

/** Steps that many tests begin with. */
final class Desks {
    interface Change {
        void on(CountedDesk desk);
    }

    private Desks() {
    }

    static void type(CountedDesk desk, String text) {
        for (int i = 0; i < text.length(); i++) {
            desk.append(text.charAt(i));
        }
    }

    static int formula(CountedDesk desk, String text) {
        type(desk, text);
        return desk.readFormula();
    }

    static String label(CountedDesk desk, int can) {
        StringBuilder label = new StringBuilder();
        int length = desk.labelLength(can);
        for (int i = 0; i < length; i++) {
            label.append(desk.label(can, i));
        }
        return label.toString();
    }

    /** Colorants 0 (1, 0, 0) and 1 (0, 2, 1), and base 0 (10, 20, 30) with limit 8 and the stock 9. */
    static CountedDesk withTwoColorants() {
        CountedDesk desk = new CountedDesk();
        desk.addColorant(1, 0, 0);
        desk.addColorant(0, 2, 1);
        desk.addBase(10, 20, 30, 8);
        desk.setStock(0, 9);
        return desk;
    }

    /** As above, with lots in the canisters and formula 0 for 2.5 steps of 0 and 1.33 of 1. */
    static CountedDesk readyToMix() {
        CountedDesk desk = withTwoColorants();
        desk.refill(0, 7, 3);
        desk.refill(0, 9, 4);
        desk.refill(0, 7, 20);
        desk.refill(1, 1, 50);
        formula(desk, "b0:0=250,1=133");
        return desk;
    }

    /** So many colorants without colour, each with 100 steps in a lot of its own number, and base 0 with stock 99. */
    static CountedDesk stocked(int colorants, int limit) {
        CountedDesk desk = new CountedDesk();
        for (int i = 0; i < colorants; i++) {
            desk.addColorant(0, 0, 0);
            desk.refill(i, i, 100);
        }
        desk.addBase(0, 0, 0, limit);
        desk.setStock(0, 99);
        return desk;
    }

    /** As above, with can 0 of formula 0, which has no steps. */
    static CountedDesk withAnEmptyCan(int colorants, int limit) {
        CountedDesk desk = stocked(colorants, limit);
        formula(desk, "b0:0=0");
        desk.mix(0);
        return desk;
    }

    /** So many of each; each canister has 100 steps in lot 5, and a can of formula 0 has a step of each colorant. */
    static CountedDesk holding(int colorants, int bases, int formulas, int cans) {
        CountedDesk desk = new CountedDesk();
        for (int i = 0; i < colorants; i++) {
            desk.addColorant(1, 2, 3);
            desk.refill(i, 5, 100);
        }
        for (int i = 0; i < bases; i++) {
            desk.addBase(1, 2, 3, 200);
            desk.setStock(i, 99);
        }
        for (int i = 0; i < formulas; i++) {
            formula(desk, "b" + i % bases + ":0=100");
        }
        for (int i = 1; i < colorants && formulas > 0; i++) {
            desk.setAmount(0, i, 100);
        }
        for (int i = 0; i < cans; i++) {
            desk.mix(i % formulas);
        }
        return desk;
    }

    /** Nothing is longer than a two-digit lot for each of the 200 steps, shared by all colorants. */
    static String longestLabel() {
        StringBuilder label = new StringBuilder("b0");
        for (int colorant = 0; colorant < 8; colorant++) {
            label.append(',').append(colorant).append("=25");
            for (int lot = 75; lot < 100; lot++) {
                label.append(':').append(lot);
            }
        }
        return label.append("+200").toString();
    }

    /** Can 0 has the longest label. */
    static CountedDesk withTheLongestLabel() {
        CountedDesk desk = withAnEmptyCan(8, 200);
        for (int colorant = 0; colorant < 8; colorant++) {
            desk.recall(colorant, colorant);
            for (int lot = 99; lot >= 75; lot--) {
                desk.refill(colorant, lot, 1);
                if (lot % 5 == 0) {
                    desk.correct(0, colorant, 5);
                }
            }
        }
        return desk;
    }

    /** One colorant, one base, one formula and one can, in six changes. */
    static CountedDesk withOneOfEach() {
        CountedDesk desk = new CountedDesk();
        desk.addColorant(1, 2, 3);
        desk.addBase(11, 12, 13, 40);
        desk.setStock(0, 9);
        desk.refill(0, 99, 30);
        formula(desk, "b0:0=250");
        desk.mix(0);
        return desk;
    }

    /** Of all things that withOneOfEach makes there are others then; the desk must be a new one. */
    static void makeOtherThings(CountedDesk desk) {
        desk.addColorant(9, 8, 7);
        desk.addColorant(6, 5, 4);
        desk.setLife(0, 40);
        desk.addBase(21, 22, 23, 60);
        desk.addBase(24, 25, 26, 70);
        desk.setStock(1, 3);
        desk.pass(3);
        desk.refill(0, 5, 60);
        desk.refill(0, 6, 60);
        desk.refill(1, 0, 60);
        formula(desk, "b1:1=777");
        formula(desk, "b1:0=777,1=99");
        desk.mix(1);
        desk.correct(0, 1, 2);
        desk.recall(0, 6);
    }

    /** All numbers that can be asked, as one text: two desks with the same text are in the same state. */
    static String dump(CountedDesk desk) {
        StringBuilder out = new StringBuilder();
        for (int what = 0; what <= 12; what++) {
            out.append(desk.account(what)).append(' ');
        }
        int colorants = desk.account(0);
        for (int c = 0; c < colorants; c++) {
            out.append("\ncolorant");
            for (int what = 0; what <= 9; what++) {
                out.append(' ').append(desk.colorant(c, what));
            }
            int lots = desk.colorant(c, 4);
            for (int i = 0; i < lots; i++) {
                out.append(" lot ").append(desk.lot(c, i, 0)).append(' ').append(desk.lot(c, i, 1));
                out.append(' ').append(desk.lot(c, i, 2));
            }
        }
        int bases = desk.account(1);
        for (int b = 0; b < bases; b++) {
            out.append("\nbase");
            for (int what = 0; what <= 5; what++) {
                out.append(' ').append(desk.base(b, what));
            }
        }
        int formulas = desk.account(2);
        for (int f = 0; f < formulas; f++) {
            out.append("\nformula ").append(desk.baseOf(f)).append(' ').append(desk.possible(f));
            for (int c = 0; c < colorants; c++) {
                out.append(' ').append(desk.amount(f, c, false)).append('/').append(desk.amount(f, c, true));
            }
        }
        int cans = desk.account(3);
        for (int k = 0; k < cans; k++) {
            out.append("\ncan ").append(label(desk, k)).append(' ').append(desk.closest(k));
            for (int what = 0; what <= 5; what++) {
                out.append(' ').append(desk.can(k, what));
            }
            for (int axis = 0; axis < 3; axis++) {
                out.append(' ').append(desk.colour(k, axis));
            }
        }
        return out.toString();
    }
}

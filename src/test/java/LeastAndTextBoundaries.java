/** The terms from the least correction to the texts of formulas. */
final class LeastAndTextBoundaries extends Boundaries {
    LeastAndTextBoundaries(Sentences sentences, Check check) {
        super(sentences, check);
    }

    @Override
    void tell() {
        leastCorrections();
        labels();
        texts();
    }

    private void term(String words, Check.Call test) {
        holds("Terms", words, test);
    }

    private void leastCorrections() {
        term("The least correction. A correction with several colorants reaches a colour with a tolerance if on each "
            + "axis the value of the can, with what is added, differs from it by at most the tolerance.",
            this::atMostTheTolerance);
        term("Of all that add at most 6 steps in all", this::atMostSixSteps);
        term("keep the limit of the base", this::withinTheLimit);
        term("take no more of a colorant than there is in its canister", this::withinTheCanisters);
        term("the least one is that which reaches the colour with the fewest steps in all", this::fewestSteps);
        term("of several, the one with the most steps of colorant 0, of several of these the one with the most steps "
            + "of colorant 1, and so on.", this::mostOfTheFirst);
    }

    private void labels() {
        term("Labels. The label of a can is a text: \"b\" and its base", this::labelsOfBases);
        term("then, for each colorant with at least one step in it, in ascending order, \",\", the colorant, \"=\", its "
            + "steps", this::labelsOfColorants);
        term("\":\" and the number of a lot for each lot number from which such steps came, in ascending order",
            this::labelsOfLots);
        term("at last, if it was corrected, \"+\" and the steps that corrections added.", this::labelsOfCorrections);
        term("Numbers are written without zeros in front.", this::noZerosInFront);
    }

    private void texts() {
        term("Texts. A text of a formula consists of \"b\" and a base, \":\", and one or more parts with \",\" between "
            + "them; a part is a colorant, \"=\", and an amount.", this::whatATextConsistsOf);
        term("Bases and colorants are one digit each", this::oneDigit);
        term("an amount is 1 to 4 digits that do not begin with 0, except for 0 itself", this::amountsInTexts);
        term("of several parts with the same colorant, the last one counts.", this::lastPartCounts);
        term("The fault position of a text is the index of its first character that cannot continue such a text",
            this::faultPositions);
        term("or the length of the text if it ends too early.", this::textsThatEndTooEarly);
    }

    /** Base 0 (50, 60, 70) with can 0, and colorants that each have 9 steps and these values. */
    private static CountedDesk withValues(int limit, int[]... values) {
        CountedDesk desk = new CountedDesk();
        for (int i = 0; i < values.length; i++) {
            desk.addColorant(values[i][0], values[i][1], values[i][2]);
            desk.refill(i, 0, 9);
        }
        desk.addBase(50, 60, 70, limit);
        desk.setStock(0, 1);
        Desks.formula(desk, "b0:0=0");
        desk.mix(0);
        return desk;
    }

    private void least(CountedDesk desk, int goal, int tolerance, int... due) {
        int sum = 0;
        for (int i = 0; i < due.length; i++) {
            same("to " + goal + " within " + tolerance + ", of " + i, due[i], desk.least(0, goal, 60, 70, tolerance, i));
            sum += due[i];
        }
        same("to " + goal + " within " + tolerance, sum, desk.least(0, goal, 60, 70, tolerance, -1));
    }

    private void none(CountedDesk desk, int goal, int tolerance) {
        fails("to " + goal + " within " + tolerance, NO_ELEMENT, () -> desk.least(0, goal, 60, 70, tolerance, -1));
    }

    private void atMostTheTolerance() {
        int[] tolerances = {0, 1, 99};
        for (int t : tolerances) {
            CountedDesk desk = withValues(200, new int[] {0, 0, 0});
            for (int sign = -1; sign <= 1; sign += 2) {
                int in = sign * t;
                int out = sign * (t + 1);
                same("all axes at the tolerance", 0, desk.least(0, 50 + in, 60 + in, 70 + in, t, -1));
                same("each in its own way", 0, desk.least(0, 50 + in, 60 - in, 70, t, 0));
                fails("axis 0 beyond it", NO_ELEMENT, () -> desk.least(0, 50 + out, 60 + in, 70 + in, t, -1));
                fails("axis 1 beyond it", NO_ELEMENT, () -> desk.least(0, 50 + in, 60 + out, 70 + in, t, -1));
                fails("axis 2 beyond it", NO_ELEMENT, () -> desk.least(0, 50 + in, 60 + in, 70 + out, t, -1));
            }
        }
        CountedDesk desk = withValues(200, new int[] {9, 0, 0});
        least(desk, 62, 3, 1);
        least(desk, 65, 3, 2);
        none(desk, 62, 2);
        none(desk, 65, 2);
    }

    private void atMostSixSteps() {
        CountedDesk desk = withValues(200, new int[] {1, 0, 0}, new int[] {3, 0, 0});
        least(desk, 68, 0, 0, 6);
        none(desk, 69, 0);
        least(desk, 69, 1, 0, 6);
        desk.recall(1, 0);
        least(desk, 56, 0, 6, 0);
        none(desk, 57, 0);
        desk.refill(1, 0, 1);
        least(desk, 58, 0, 5, 1);
        none(desk, 59, 0);
    }

    private void withinTheLimit() {
        CountedDesk desk = withValues(5, new int[] {1, 0, 0}, new int[] {1, 0, 0});
        least(desk, 55, 0, 5, 0);
        none(desk, 56, 0);
        least(desk, 56, 1, 5, 0);
        desk.correct(0, 1, 3);
        least(desk, 55, 0, 2, 0);
        none(desk, 56, 0);
        desk.correct(0, 0, 2);
        least(desk, 55, 0, 0, 0);
        none(desk, 56, 0);
        CountedDesk narrow = withValues(0, new int[] {1, 0, 0});
        least(narrow, 50, 0, 0);
        none(narrow, 51, 0);
        least(narrow, 51, 1, 0);
    }

    private void withinTheCanisters() {
        CountedDesk desk = withValues(200, new int[] {1, 0, 0}, new int[] {1, 0, 0});
        desk.recall(0, 0);
        desk.recall(1, 0);
        least(desk, 50, 0, 0, 0);
        none(desk, 51, 0);
        desk.refill(1, 1, 1);
        least(desk, 51, 0, 0, 1);
        none(desk, 52, 0);
        desk.refill(0, 1, 1);
        desk.refill(0, 2, 1);
        least(desk, 52, 0, 2, 0);
        least(desk, 53, 0, 2, 1);
        none(desk, 54, 0);
    }

    private void fewestSteps() {
        CountedDesk desk = withValues(200, new int[] {1, 0, 0}, new int[] {3, 0, 0}, new int[] {9, 0, 0});
        least(desk, 50, 0, 0, 0, 0);
        least(desk, 53, 0, 0, 1, 0);
        least(desk, 53, 3, 0, 0, 0);
        least(desk, 53, 2, 1, 0, 0);
        least(desk, 60, 0, 1, 0, 1);
        least(desk, 59, 0, 0, 0, 1);
        least(desk, 58, 0, 2, 2, 0);
        least(desk, 58, 1, 0, 0, 1);
    }

    private void mostOfTheFirst() {
        int[] one = {1, 0, 0};
        CountedDesk desk = withValues(200, one, one, one, one, one, one, one, one);
        least(desk, 52, 0, 2, 0, 0, 0, 0, 0, 0, 0);
        for (int i = 0; i < 7; i++) {
            desk.recall(i, 0);
            desk.refill(i, 1, i % 2 + 1);
        }
        least(desk, 52, 0, 1, 1, 0, 0, 0, 0, 0, 0);
        desk.recall(0, 1);
        desk.recall(1, 1);
        desk.recall(2, 1);
        least(desk, 55, 0, 0, 0, 0, 2, 1, 2, 0, 0);
        desk.recall(3, 1);
        desk.recall(5, 1);
        least(desk, 54, 0, 0, 0, 0, 0, 1, 0, 1, 2);
        CountedDesk pairs = withValues(200, new int[] {2, 0, 0}, new int[] {3, 0, 0}, new int[] {1, 0, 0}, one);
        least(pairs, 54, 0, 2, 0, 0, 0);
        pairs.recall(0, 0);
        pairs.refill(0, 1, 1);
        least(pairs, 54, 0, 0, 1, 1, 0);
        least(pairs, 56, 0, 0, 2, 0, 0);
        least(pairs, 57, 0, 0, 2, 1, 0);
        least(pairs, 58, 0, 1, 2, 0, 0);
        CountedDesk alike = withValues(200, new int[] {2, 0, 0}, one, one);
        alike.recall(0, 0);
        alike.refill(0, 1, 1);
        least(alike, 54, 0, 1, 2, 0);
        alike.recall(1, 0);
        alike.refill(1, 1, 1);
        least(alike, 54, 0, 1, 1, 1);
    }

    private void labelsOfBases() {
        CountedDesk desk = Desks.stocked(1, 9);
        for (int i = 1; i < 6; i++) {
            desk.addBase(0, 0, 0, 9);
            desk.setStock(i, 1);
        }
        Desks.formula(desk, "b0:0=0");
        Desks.formula(desk, "b5:0=0");
        desk.mix(0);
        desk.mix(1);
        same("the first base", "b0", Desks.label(desk, 0));
        same("the last base", "b5", Desks.label(desk, 1));
    }

    private void labelsOfColorants() {
        CountedDesk desk = Desks.stocked(8, 99);
        Desks.formula(desk, "b0:6=0,5=99,3=199,4=100");
        desk.mix(0);
        same("each with at least one step", "b0,3=1:3,4=1:4", Desks.label(desk, 0));
        desk.correct(0, 7, 1);
        desk.correct(0, 1, 1);
        desk.correct(0, 0, 9);
        same("in ascending order", "b0,0=9:0,1=1:1,3=1:3,4=1:4,7=1:7+11", Desks.label(desk, 0));
    }

    private void labelsOfLots() {
        CountedDesk desk = Desks.withAnEmptyCan(2, 200);
        desk.recall(0, 0);
        int[] lots = {99, 50, 0, 50, 64, 63, 7};
        for (int lot : lots) {
            desk.refill(0, lot, 2);
        }
        desk.correct(0, 1, 1);
        desk.correct(0, 0, 2);
        same("none of those behind", "b0,0=2:99,1=1:1+3", Desks.label(desk, 0));
        desk.correct(0, 0, 11);
        same("each once", "b0,0=13:0:7:50:63:64:99,1=1:1+14", Desks.label(desk, 0));
        desk.recall(0, 7);
        desk.refill(0, 50, 2);
        desk.correct(0, 0, 2);
        same("also when it comes again", "b0,0=15:0:7:50:63:64:99,1=1:1+16", Desks.label(desk, 0));
    }

    private void labelsOfCorrections() {
        CountedDesk desk = Desks.stocked(2, 200);
        Desks.formula(desk, "b0:0=200");
        desk.mix(0);
        desk.mix(0);
        desk.recall(1, 1);
        isRefused(5, desk, () -> desk.correct(0, 1, 1));
        same("not corrected", "b0,0=2:0", Desks.label(desk, 0));
        desk.correct(0, 0, 1);
        same("corrected", "b0,0=3:0+1", Desks.label(desk, 0));
        desk.correct(0, 0, 50);
        same("corrected again", "b0,0=53:0+51", Desks.label(desk, 0));
        same("another can is not", "b0,0=2:0", Desks.label(desk, 1));
        CountedDesk empty = Desks.withAnEmptyCan(1, 9);
        empty.correct(0, 0, 1);
        same("corrected from no steps", "b0,0=1:0+1", Desks.label(empty, 0));
    }

    private void noZerosInFront() {
        CountedDesk desk = Desks.withAnEmptyCan(1, 200);
        desk.correct(0, 0, 9);
        same("one digit", "b0,0=9:0+9", Desks.label(desk, 0));
        desk.correct(0, 0, 1);
        same("two digits", "b0,0=10:0+10", Desks.label(desk, 0));
        desk.recall(0, 0);
        int[] lots = {10, 9, 5, 90};
        for (int lot : lots) {
            desk.refill(0, lot, 22);
        }
        desk.correct(0, 0, 50);
        desk.correct(0, 0, 38);
        same("two digits, near a hundred", "b0,0=98:0:5:9:10:90+98", Desks.label(desk, 0));
        desk.refill(0, 9, 102);
        desk.correct(0, 0, 2);
        same("three digits", "b0,0=100:0:5:9:10:90+100", Desks.label(desk, 0));
        desk.correct(0, 0, 1);
        same("a zero between", "b0,0=101:0:5:9:10:90+101", Desks.label(desk, 0));
        desk.correct(0, 0, 50);
        desk.correct(0, 0, 49);
        same("the greatest", "b0,0=200:0:5:9:10:90+200", Desks.label(desk, 0));
    }

    private static CountedDesk full() {
        CountedDesk desk = Desks.stocked(8, 9);
        for (int i = 1; i < 6; i++) {
            desk.addBase(0, 0, 0, 9);
        }
        return desk;
    }

    private void fault(String text, int due) {
        CountedDesk desk = full();
        Desks.type(desk, text);
        fails("a fault in " + text, BAD_ARGUMENT, desk::readFormula);
        same("fault position of " + text, due, desk.faultPosition());
    }

    private void good(String text, int base, int colorant, int amount) {
        CountedDesk desk = full();
        same("a good text " + text, 0, Desks.formula(desk, text));
        same("no fault in " + text, -1, desk.faultPosition());
        same("base of " + text, base, desk.baseOf(0));
        same("amount of " + text, amount, desk.amount(0, colorant, false));
    }

    private void whatATextConsistsOf() {
        good("b0:0=0", 0, 0, 0);
        good("b5:7=1", 5, 7, 1);
        good("b1:7=1,0=20", 1, 0, 20);
        good("b0:0=1,1=2,2=3,3=4,4=5,5=6,6=7,7=8,0=9,1=8,2=7,3=6,4=5,5=44", 0, 5, 44);
        fault("", 0);
        fault("0:0=0", 0);
        fault("B0:0=0", 0);
        fault("b0;0=0", 2);
        fault("b0:", 3);
        fault("b0:,0=0", 3);
        fault("b0:0:0", 4);
        fault("b0:0=1;1=1", 6);
        fault("b0:0=1,", 7);
        fault("b0:0=1,,1=1", 7);
        fault("b0:0=1:1=1", 6);
        fault("b0:0=1b0:0=1", 6);
        fault(" b0:0=1", 0);
        fault("b0:0=1 ", 6);
        fault("b0: 0=1", 3);
    }

    private void oneDigit() {
        good("b0:0=5", 0, 0, 5);
        good("b5:7=5", 5, 7, 5);
        fault("b:0=1", 1);
        fault("b00:0=1", 2);
        fault("b10:0=1", 2);
        fault("b0:=1", 3);
        fault("b0:00=1", 4);
        fault("b0:10=1", 4);
        fault("b0:0=1,10=1", 8);
        fault("b/:0=1", 1);
        fault("b::0=1", 1);
        fault("b0:/=1", 3);
        fault("b0::=1", 3);
        fault("ba:0=1", 1);
        fault("b0:a=1", 3);
        fault("b" + (char) ('0' + 256) + ":0=1", 1);
        fault("b-1:0=1", 1);
    }

    private void amountsInTexts() {
        good("b0:0=0", 0, 0, 0);
        good("b0:0=1", 0, 0, 1);
        good("b0:0=9", 0, 0, 9);
        good("b0:0=10", 0, 0, 10);
        good("b0:0=100", 0, 0, 100);
        good("b0:0=1000", 0, 0, 1000);
        good("b0:0=9999", 0, 0, 9999);
        good("b0:0=0,1=0", 0, 1, 0);
        fault("b0:0=", 5);
        fault("b0:0=,1=1", 5);
        fault("b0:0=00", 6);
        fault("b0:0=01", 6);
        fault("b0:0=0000", 6);
        fault("b0:0=10000", 9);
        fault("b0:0=99999", 9);
        fault("b0:0=12345678901", 9);
        fault("b0:0=1,1=00", 10);
        fault("b0:0=1,1=10000", 13);
        fault("b0:0=-1", 5);
        fault("b0:0=+1", 5);
        fault("b0:0=1.5", 6);
        fault("b0:0=" + (char) ('1' + 256), 5);
    }

    private void lastPartCounts() {
        good("b0:0=9999,0=0", 0, 0, 0);
        good("b0:0=0,0=9999", 0, 0, 9999);
        good("b0:3=5,0=1,3=7,1=2,3=6,2=9", 0, 3, 6);
        good("b0:3=5,0=1,3=7", 0, 0, 1);
        good("b0:3=5,3=5", 0, 3, 5);
    }

    private void faultPositions() {
        fault("x", 0);
        fault("xb0:0=1", 0);
        fault("bx", 1);
        fault("b0x", 2);
        fault("b0:x", 3);
        fault("b0:0x", 4);
        fault("b0:0=x", 5);
        fault("b0:0=0x", 6);
        fault("b0:0=1x", 6);
        fault("b0:0=12x", 7);
        fault("b0:0=123x", 8);
        fault("b0:0=1234x", 9);
        fault("b0:0=1,x", 7);
        fault("b0:0=1,1x", 8);
        fault("b0:0=1,1=x", 9);
        fault("b0:0=1,1=1x", 10);
        fault("x".repeat(60), 0);
        fault("b0:" + "0=1,".repeat(13) + "0=12x", 59);
        fault("b0:0=" + (char) 0, 5);
        fault("b0:0=1" + (char) 65535, 6);
    }

    private void textsThatEndTooEarly() {
        fault("", 0);
        fault("b", 1);
        fault("b0", 2);
        fault("b0:", 3);
        fault("b0:0", 4);
        fault("b0:0=", 5);
        fault("b0:0=0,", 7);
        fault("b0:0=1,", 7);
        fault("b0:0=1234,", 10);
        fault("b0:0=1,1", 8);
        fault("b0:0=1,1=", 9);
        fault("b0:" + "0=1,".repeat(14) + "0", 60);
        fault("b0:" + "0=1,".repeat(12) + "0=1234567".substring(0, 6) + ",0=", 60);
    }
}

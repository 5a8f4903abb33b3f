import java.util.NoSuchElementException;

/** Promises 12 to 18. */
public final class FormulasTest {
    private static final Class<IndexOutOfBoundsException> NO_INDEX = IndexOutOfBoundsException.class;
    private static final Class<IllegalArgumentException> BAD_ARGUMENT = IllegalArgumentException.class;
    private static final Class<UnsupportedOperationException> REFUSED = UnsupportedOperationException.class;
    private static final Class<NoSuchElementException> NO_ELEMENT = NoSuchElementException.class;
    private static final Check CHECK = new Check();

    public static void main(String[] args) {
        append();
        readFormula();
        readFormulaRefused();
        faultPositions();
        everySignAtEveryPlace();
        setAmount();
        amount();
        baseOf();
        closest();
        CHECK.end();
    }

    private static void append() {
        CountedDesk desk = Desks.withTwoColorants();
        desk.append((char) 0);
        desk.append((char) 65535);
        Desks.type(desk, "x".repeat(58));
        CHECK.fails("12: 60 are there", IllegalStateException.class, () -> desk.append('b'));
        CHECK.fails("12: any signs are a text", BAD_ARGUMENT, desk::readFormula);
        CHECK.same("12: with the fault at 0", 0, desk.faultPosition());
        String longest = "b0:" + "0=1,".repeat(13) + "1=777";
        CHECK.same("12: the longest text", 60, longest.length());
        CHECK.same("12: can be read after that", 0, Desks.formula(desk, longest));
        CHECK.same("12: to its end", 777, desk.amount(0, 1, false));
    }

    private static void readFormula() {
        CountedDesk desk = Desks.withTwoColorants();
        CHECK.same("13: first", 0, Desks.formula(desk, "b0:1=9999"));
        CHECK.same("13: amount", 9999, desk.amount(0, 1, false));
        CHECK.same("13: not named", 0, desk.amount(0, 0, false));
        CHECK.same("13: second", 1, Desks.formula(desk, "b0:1=5,0=0,1=12,0=3,1=0"));
        CHECK.same("13: the last part counts", 3, desk.amount(1, 0, false));
        CHECK.same("13: the last part counts, 0, too", 0, desk.amount(1, 1, false));
        CHECK.same("13: no carry", 0, desk.amount(1, 0, true));
        CHECK.same("13: no fault", -1, desk.faultPosition());
        Desks.type(desk, "b0:0=");
        CHECK.fails("13: a fault", BAD_ARGUMENT, desk::readFormula);
        CHECK.fails("13: is no refusal", NO_ELEMENT, desk::refusal);
        CHECK.same("13: and empties", 2, Desks.formula(desk, "b0:0=10"));
        CHECK.fails("13: reading empties", BAD_ARGUMENT, desk::readFormula);
        CHECK.same("13: an empty text", 0, desk.faultPosition());
        CHECK.same("13: three were made", 3, desk.account(2));
        desk.addColorant(0, 0, 0);
        CHECK.same("13: a later colorant", 0, desk.amount(0, 2, false));
    }

    private static void readFormulaRefused() {
        CountedDesk desk = Desks.withTwoColorants();
        String[] missing = {"b1:0=1", "b9:0=1", "b0:2=1", "b0:9=0", "b0:2=1,0=1", "b0:0=1,5=0"};
        for (String text : missing) {
            Desks.type(desk, text);
            CHECK.fails("13: refused " + text, REFUSED, desk::readFormula);
            CHECK.same("13: reason of " + text, 1, desk.refusal());
            CHECK.same("13: fault position behind " + text, -1, desk.faultPosition());
        }
        for (int i = 0; i < 10; i++) {
            CHECK.same("13: empty after a refusal", i, Desks.formula(desk, "b0:0=1"));
        }
        Desks.type(desk, "b0:0=1");
        CHECK.fails("13: an eleventh formula", REFUSED, desk::readFormula);
        CHECK.same("13: reason 2", 2, desk.refusal());
        Desks.type(desk, "b0:2=1");
        CHECK.fails("13: reason 1 comes first", REFUSED, desk::readFormula);
        CHECK.same("13: reason 1", 1, desk.refusal());
        Desks.type(desk, "b0:2=01");
        CHECK.fails("13: a fault comes before", BAD_ARGUMENT, desk::readFormula);
        CHECK.same("13: and keeps no reason", 1, desk.refusal());
        CHECK.fails("13: nothing lacks", NO_ELEMENT, desk::lacking);
        CHECK.same("13: ten formulas", 10, desk.account(2));
    }

    private static void faultPositions() {
        String[] texts = {"", "b", "b0", "b0:", "b0:0", "b0:0=", "b0:0=1,", "b0:0=1,1", "b0:0=1,1=",
            "c", "B0:0=1", " b0:0=1", "bb", "b:", "b00", "b0;", "b0:b", "b0::", "b0:,", "b0:00", "b0:0:",
            "b0:0==", "b0:0=,", "b0:0=-", "b0:0=00", "b0:0=01", "b0:0=12345", "b0:0=1 ", "b0:0=1;",
            "b0:0=1,,", "b0:0=1,b", "b0:0=1,1=02", "b0:0=1234,1=99999", "b0:0=1=", "b0:0=" + (char) 0x661};
        int[] due = {0, 1, 2, 3, 4, 5, 7, 8, 9,
            0, 0, 0, 1, 1, 2, 2, 3, 3, 3, 4, 4,
            5, 5, 5, 6, 6, 9, 6, 6,
            7, 7, 10, 16, 6, 5};
        CountedDesk desk = Desks.withTwoColorants();
        for (int i = 0; i < texts.length; i++) {
            Desks.type(desk, texts[i]);
            CHECK.fails("14: " + texts[i], BAD_ARGUMENT, desk::readFormula);
            CHECK.same("14: fault position of " + texts[i], due[i], desk.faultPosition());
        }
        Desks.type(desk, "b0");
        CHECK.same("14: appending changes nothing", 5, desk.faultPosition());
        Desks.type(desk, ":0=1");
        CHECK.same("14: a good text", 0, desk.readFormula());
        CHECK.same("14: has no fault", -1, desk.faultPosition());
        Desks.type(desk, "x");
        CHECK.fails("14: a fault", BAD_ARGUMENT, desk::readFormula);
        desk.undo();
        CHECK.same("14: undo leaves it", 0, desk.faultPosition());
    }

    /** Each sign from 0 to 255 is put at each place of a good text; only what continues it is taken. */
    private static void everySignAtEveryPlace() {
        String good = "b0:1=10,0=0";
        String[] takenInstead = {"b", "0123456789", ":", "0123456789", "=", "123456789", "0123456789,",
            ",0123456789", "0123456789", "=", "0123456789"};
        for (int at = 0; at < good.length(); at++) {
            for (int sign = 0; sign < 256; sign++) {
                CountedDesk desk = Desks.withTwoColorants();
                Desks.type(desk, good.substring(0, at));
                desk.append((char) sign);
                boolean isTaken = takenInstead[at].indexOf(sign) >= 0 || (at == 5 && sign == '0');
                boolean mayEnd = at == 10 || at == 5 || (at == 6 && sign != ',');
                readOrFail(desk);
                boolean isWhole = at == 7 ? sign >= '0' && sign <= '9' : mayEnd;
                int due = !isTaken ? at : isWhole ? -1 : at + 1;
                CHECK.same("14: sign " + sign + " at " + at, due, desk.faultPosition());
            }
        }
    }

    private static void readOrFail(CountedDesk desk) {
        try {
            desk.readFormula();
        } catch (IllegalArgumentException | UnsupportedOperationException thrown) {
            CHECK.same("14: no formula", 1, 1);
        }
    }

    private static void setAmount() {
        CountedDesk desk = Desks.readyToMix();
        desk.mix(0);
        CHECK.same("15: a carry is there", 50, desk.amount(0, 0, true));
        CHECK.fails("15: formula 1", NO_INDEX, () -> desk.setAmount(1, 0, -1));
        CHECK.fails("15: formula -1", NO_INDEX, () -> desk.setAmount(-1, 0, 0));
        CHECK.fails("15: colorant 2", NO_INDEX, () -> desk.setAmount(0, 2, -1));
        CHECK.fails("15: colorant -1", NO_INDEX, () -> desk.setAmount(0, -1, 0));
        CHECK.fails("15: amount -1", BAD_ARGUMENT, () -> desk.setAmount(0, 0, -1));
        CHECK.fails("15: amount 10000", BAD_ARGUMENT, () -> desk.setAmount(0, 0, 10000));
        CHECK.same("15: the carry stays", 50, desk.amount(0, 0, true));
        CHECK.same("15: to what it is", 250, desk.setAmount(0, 0, 250));
        CHECK.same("15: the carry goes", 0, desk.amount(0, 0, true));
        CHECK.same("15: that of others stays", 33, desk.amount(0, 1, true));
        CHECK.same("15: the largest", 250, desk.setAmount(0, 0, 9999));
        CHECK.same("15: the smallest", 9999, desk.setAmount(0, 0, 0));
        CHECK.same("15: is set", 0, desk.amount(0, 0, false));
    }

    private static void amount() {
        CountedDesk desk = Desks.readyToMix();
        CHECK.same("16: amount", 133, desk.amount(0, 1, false));
        CHECK.same("16: carry at first", 0, desk.amount(0, 1, true));
        desk.mix(0);
        desk.mix(0);
        CHECK.same("16: amount stays", 133, desk.amount(0, 1, false));
        CHECK.same("16: carry of 1", 66, desk.amount(0, 1, true));
        CHECK.same("16: carry of 0", 0, desk.amount(0, 0, true));
        CHECK.fails("16: formula 1", NO_INDEX, () -> desk.amount(1, 0, false));
        CHECK.fails("16: formula -1", NO_INDEX, () -> desk.amount(-1, 0, true));
        CHECK.fails("16: colorant 2", NO_INDEX, () -> desk.amount(0, 2, false));
        CHECK.fails("16: colorant -1", NO_INDEX, () -> desk.amount(0, -1, true));
    }

    private static void baseOf() {
        CountedDesk desk = Desks.withTwoColorants();
        desk.addBase(0, 0, 0, 0);
        Desks.formula(desk, "b1:0=1");
        Desks.formula(desk, "b0:0=1");
        CHECK.same("17: of 0", 1, desk.baseOf(0));
        CHECK.same("17: of 1", 0, desk.baseOf(1));
        CHECK.fails("17: of 2", NO_INDEX, () -> desk.baseOf(2));
        CHECK.fails("17: of -1", NO_INDEX, () -> desk.baseOf(-1));
    }

    private static void closest() {
        CountedDesk desk = Desks.readyToMix();
        desk.addBase(0, 0, 0, 9);
        Desks.formula(desk, "b1:0=200,1=100");
        Desks.formula(desk, "b0:0=250,1=67");
        Desks.formula(desk, "b0:0=200,1=217");
        Desks.formula(desk, "b0:0=200,1=183");
        CHECK.fails("18: no can", NO_INDEX, () -> desk.closest(0));
        desk.mix(0);
        CHECK.same("18: of several the lowest one", 0, desk.closest(0));
        desk.setAmount(0, 0, 251);
        CHECK.same("18: without sign, with this base", 2, desk.closest(0));
        desk.setAmount(4, 1, 180);
        CHECK.same("18: a later one", 4, desk.closest(0));
        desk.correct(0, 1, 1);
        CHECK.same("18: corrections count", 3, desk.closest(0));
        CHECK.fails("18: can 1", NO_INDEX, () -> desk.closest(1));
        CHECK.fails("18: can -1", NO_INDEX, () -> desk.closest(-1));
    }
}

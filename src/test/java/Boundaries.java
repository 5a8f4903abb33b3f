import java.util.NoSuchElementException;

/** What the tests of the document's sentences share: each names its sentence, and then asks desks. */
abstract class Boundaries {
    static final Class<IndexOutOfBoundsException> NO_INDEX = IndexOutOfBoundsException.class;
    static final Class<IllegalArgumentException> BAD_ARGUMENT = IllegalArgumentException.class;
    static final Class<IllegalStateException> BAD_STATE = IllegalStateException.class;
    static final Class<UnsupportedOperationException> REFUSED = UnsupportedOperationException.class;
    static final Class<NoSuchElementException> NO_ELEMENT = NoSuchElementException.class;
    static final Class<ArithmeticException> NO_QUOTIENT = ArithmeticException.class;

    private final Sentences sentences;
    private final Check check;

    Boundaries(Sentences sentences, Check check) {
        this.sentences = sentences;
        this.check = check;
    }

    interface IntCall {
        void with(int value);
    }

    interface IndexCall {
        void on(CountedDesk desk, int index);
    }

    /** Names all sentences of this part, with their tests. */
    abstract void tell();

    final void holds(String section, String words, Check.Call test) {
        check.about(section + " (" + words + "): ");
        int before = check.asked();
        if (!sentences.cite(section, words)) {
            check.report("is not in the document");
        }
        try {
            test.run();
        } catch (RuntimeException thrown) {
            check.report("the test ended with " + thrown);
        }
        if (check.asked() == before) {
            check.report("nothing was asked");
        }
        check.about("");
    }

    final void promise(int number, String words, Check.Call test) {
        holds("Promise " + number, words, test);
    }

    final void throwsIf(int number, Class<? extends RuntimeException> due, String words, Check.Call test) {
        promise(number, "Throws `" + due.getSimpleName() + "` if " + words, test);
    }

    /** Words that name no boundary; what they say is tested by promise, in the other tests. */
    final void namesNone(String section, String... words) {
        for (String some : words) {
            if (!sentences.cite(section, some)) {
                check.report(section + " does not say: " + some);
            }
        }
    }

    final void same(String what, long due, long got) {
        check.same(what, due, got);
    }

    final void same(String what, boolean due, boolean got) {
        check.same(what, due, got);
    }

    final void same(String what, double due, double got) {
        check.same(what, due, got);
    }

    final void same(String what, String due, String got) {
        check.same(what, due, got);
    }

    final void fails(String what, Class<? extends RuntimeException> due, Check.Call call) {
        check.fails(what, due, call);
    }

    /** Just outside of the range, far outside, and what a narrower number would take for something inside. */
    final void failsOutside(int low, int high, Class<? extends RuntimeException> due, IntCall call) {
        int[] outside = {low - 1, high + 1, low - 256, high + 256, low + 65536, Integer.MIN_VALUE + low,
            Integer.MIN_VALUE, Integer.MAX_VALUE};
        for (int value : outside) {
            if (value < low || value > high) {
                check.fails("with " + value, due, () -> call.with(value));
            }
        }
    }

    final void noSuchColorant(IndexCall call) {
        fails("none was made", NO_INDEX, () -> call.on(new CountedDesk(), 0));
        CountedDesk desk = Desks.holding(3, 1, 1, 1);
        desk.addColorant(0, 0, 0);
        desk.undo();
        worksUpTo(3, desk, call);
        worksUpTo(8, Desks.holding(8, 1, 1, 1), call);
    }

    final void noSuchBase(IndexCall call) {
        fails("none was made", NO_INDEX, () -> call.on(new CountedDesk(), 0));
        CountedDesk desk = Desks.holding(1, 2, 1, 1);
        desk.addBase(0, 0, 0, 9);
        desk.undo();
        worksUpTo(2, desk, call);
        worksUpTo(6, Desks.holding(1, 6, 1, 1), call);
    }

    final void noSuchFormula(IndexCall call) {
        fails("none was made", NO_INDEX, () -> call.on(Desks.holding(1, 1, 0, 0), 0));
        CountedDesk desk = Desks.holding(1, 1, 3, 3);
        Desks.formula(desk, "b0:0=1");
        desk.undo();
        worksUpTo(3, desk, call);
        worksUpTo(10, Desks.holding(1, 1, 10, 10), call);
    }

    final void noSuchCan(IndexCall call) {
        fails("none was mixed", NO_INDEX, () -> call.on(Desks.holding(1, 1, 1, 0), 0));
        CountedDesk desk = Desks.holding(1, 1, 1, 4);
        desk.mix(0);
        desk.undo();
        worksUpTo(4, desk, call);
        worksUpTo(20, Desks.holding(1, 1, 1, 20), call);
    }

    /** Outside first: what works may change the desk. */
    private void worksUpTo(int count, CountedDesk desk, IndexCall call) {
        failsOutside(0, count - 1, NO_INDEX, index -> call.on(desk, index));
        call.on(desk, 0);
        call.on(desk, count - 1);
    }

    final void isRefused(int reason, CountedDesk desk, Check.Call call) {
        check.fails("refused for " + reason, REFUSED, call);
        check.same("the reason", reason, desk.refusal());
    }
}

/** Counts the answers that are not as due, and ends the program with exit code 1 if there was one. */
final class Check {
    interface Call {
        void run();
    }

    private int wrong = 0;
    private int asked = 0;
    private String about = "";

    /** What the next reports begin with. */
    void about(String words) {
        about = words;
    }

    int asked() {
        return asked;
    }

    void same(String what, long due, long got) {
        asked++;
        if (due != got) {
            report(what + " answered " + got + ", due is " + due);
        }
    }

    void same(String what, boolean due, boolean got) {
        same(what, due ? 1 : 0, got ? 1 : 0);
    }

    void same(String what, double due, double got) {
        asked++;
        if (due != got) {
            report(what + " answered " + got + ", due is " + due);
        }
    }

    void same(String what, String due, String got) {
        asked++;
        if (!due.equals(got)) {
            report(what + " answered " + got + ", due is " + due);
        }
    }

    /** The class must be the very one: what the machine throws is of a class below it. */
    void fails(String what, Class<? extends RuntimeException> due, Call call) {
        asked++;
        try {
            call.run();
        } catch (RuntimeException thrown) {
            if (thrown.getClass() != due) {
                report(what + " threw " + thrown.getClass().getName() + ", due is " + due.getName());
            }
            return;
        }
        report(what + " threw nothing, due is " + due.getName());
    }

    void report(String fault) {
        wrong++;
        System.out.println(about + fault);
    }

    void end() {
        System.out.println(asked + " answers asked, " + wrong + " not as due");
        if (wrong != 0 || asked == 0) {
            System.exit(1);
        }
    }
}

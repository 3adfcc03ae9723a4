import java.util.Objects;

/** Counts what is not as it is due, prints it, and ends the program with 1 if there was any. */
final class Check {
    private static final int MOST_SHOWN = 40;
    private final String test;
    private int checked;
    private int wrong;

    Check(String test) {
        this.test = test;
    }

    interface Call {
        Object make();
    }

    /** Numbers are compared as texts, so that int and long answers can be written alike. */
    void same(String what, Object got, Object due) {
        checked++;
        if (!Objects.equals(String.valueOf(got), String.valueOf(due))) {
            report(what + " answered " + got + ", due is " + due);
        }
    }

    void throwing(String what, Class<? extends Throwable> kind, Call call) {
        checked++;
        try {
            report(what + " answered " + call.make() + ", due is " + kind.getSimpleName());
        } catch (RuntimeException e) {
            if (e.getClass() != kind) {
                report(what + " threw " + e + ", due is " + kind.getSimpleName());
            }
        }
    }

    /** As throwing, and what can be seen of the house is the same behind it. */
    void refused(String what, Class<? extends Throwable> kind, Writeback house, Call call) {
        String before = Sight.of(house);
        throwing(what, kind, call);
        same(what + " leaves the house", Sight.of(house), before);
    }

    void report(String text) {
        wrong++;
        if (wrong <= MOST_SHOWN) {
            System.out.println(test + ": " + text);
        }
    }

    void end() {
        System.out.println(test + ": " + checked + " checks, " + wrong + " wrong");
        if (wrong != 0) {
            System.exit(1);
        }
    }
}

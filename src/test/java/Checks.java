/** Counts the answers that are not the ones that are due, and prints them. */
final class Checks {
    interface Call {
        void run();
    }

    private int made = 0;
    private int wrong = 0;

    void due(String what, long got, long want) {
        made++;
        if (got != want) {
            fault(what + " answered " + got + ", due is " + want);
        }
    }

    void due(String what, double got, double want) {
        made++;
        if (Double.compare(got, want) != 0) {
            fault(what + " answered " + got + ", due is " + want);
        }
    }

    /** The call throws exactly this class, not one below it, and what can be asked of the market stays. */
    void refused(String what, BellHush market, Class<? extends RuntimeException> kind, Call call) {
        long before = market.digest();
        made++;
        try {
            call.run();
            fault(what + " threw nothing, due is " + kind.getSimpleName());
        } catch (RuntimeException e) {
            if (e.getClass() != kind) {
                fault(what + " threw " + e + ", due is " + kind.getSimpleName());
            }
        }
        due(what + ": digest behind the refusal", market.digest(), before);
    }

    void isTrue(String what, boolean held) {
        made++;
        if (!held) {
            fault(what);
        }
    }

    void end(String name) {
        System.out.println(name + ": " + made + " checks, " + wrong + " wrong");
        if (wrong != 0) {
            System.exit(1);
        }
    }

    private void fault(String text) {
        wrong++;
        if (wrong <= 50) {
            System.out.println(text);
        }
    }
}

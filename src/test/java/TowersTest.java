/** Promises 7 to 16. */
public final class TowersTest {
    private static final Class<IndexOutOfBoundsException> INDEX = IndexOutOfBoundsException.class;
    private static final Checks CHECKS = new Checks();

    public static void main(String[] args) {
        promise7Second();
        promise8Towers();
        promise9SilenceOf();
        promise10DovesOn();
        promise11PriceOf();
        promise12SecondsUntilStroke();
        promise13StrokesOf();
        promise14OpenSeconds();
        promise15Dearest();
        promise16NextToStrike();
        refusals();
        CHECKS.end("TowersTest");
    }

    private static void promise7Second() {
        BellHush m = new BellHush();
        CHECKS.due("second() at first", m.second(), 0);
        m.pass(1);
        CHECKS.due("second() behind 1", m.second(), 1);
        m.pass(60);
        CHECKS.due("second() behind 61", m.second(), 61);
        m.list(1, 2, 0);
        m.addTrader();
        m.sell(0, 0, 1);
        CHECKS.due("second() behind calls that take no time", m.second(), 61);
    }

    private static void promise8Towers() {
        BellHush m = new BellHush();
        for (int tower = 0; tower < 8; tower++) {
            CHECKS.due("towers()", m.towers(), tower);
            m.list(1, 2, 0);
        }
        CHECKS.due("towers() of 8", m.towers(), 8);
        m.addTrader();
        CHECKS.due("towers() beside a trader", m.towers(), 8);
    }

    private static void promise9SilenceOf() {
        BellHush m = new BellHush();
        m.pass(7);
        m.list(1, 5, 4);
        CHECKS.due("silence as listed in 7", m.silenceOf(0), 0);
        m.pass(1);
        CHECKS.due("silence in 8", m.silenceOf(0), 1);
        m.pass(1);
        CHECKS.due("silence in 9, a stroke", m.silenceOf(0), 0);
        m.pass(4);
        CHECKS.due("silence in 13", m.silenceOf(0), 4);
        m.pass(1);
        CHECKS.due("silence in 14, a stroke", m.silenceOf(0), 0);
        BellHush slow = new BellHush();
        slow.list(1, 20, 0);
        slow.pass(19);
        CHECKS.due("the longest silence", slow.silenceOf(0), 19);
    }

    private static void promise10DovesOn() {
        BellHush m = new BellHush();
        m.list(9, 20, 0);
        m.list(9, 20, 0);
        for (int trader = 0; trader < 6; trader++) {
            m.addTrader();
        }
        CHECKS.due("doves at first", m.dovesOn(0), 0);
        m.sell(0, 0, 3);
        CHECKS.due("doves behind 3 sold", m.dovesOn(0), 3);
        m.buy(1, 0, 9);
        CHECKS.due("doves beside 9 held", m.dovesOn(0), 3);
        for (int trader = 2; trader < 6; trader++) {
            m.sell(trader, 0, 9);
        }
        CHECKS.due("doves of all, added", m.dovesOn(0), 39);
        CHECKS.due("doves on the other tower", m.dovesOn(1), 0);
        m.buy(0, 0, 2);
        CHECKS.due("doves behind 2 bought back", m.dovesOn(0), 37);
        m.buy(0, 0, 4);
        CHECKS.due("doves behind more bought back than sold", m.dovesOn(0), 36);
        m.pass(20);
        CHECKS.due("doves behind the stroke", m.dovesOn(0), 0);
    }

    private static void promise11PriceOf() {
        BellHush m = new BellHush();
        m.list(3, 20, 0);
        m.addTrader();
        CHECKS.due("price without silence", m.priceOf(0), 0);
        m.pass(2);
        CHECKS.due("price behind 2 seconds", m.priceOf(0), 6);
        m.sell(0, 0, 2);
        CHECKS.due("price under 2 doves", m.priceOf(0), 2);
        m.sell(0, 0, 1);
        CHECKS.due("price under 3 doves, just 0", m.priceOf(0), 0);
        m.sell(0, 0, 1);
        CHECKS.due("price under 4 doves, not less than 0", m.priceOf(0), 0);
        m.pass(1);
        CHECKS.due("price a second later", m.priceOf(0), 1);
        m.list(5, 20, 0);
        m.pass(1);
        CHECKS.due("price of the second tower", m.priceOf(1), 5);
        CHECKS.due("price of the first beside it", m.priceOf(0), 4);
        BellHush dear = new BellHush();
        dear.list(9, 20, 0);
        dear.pass(19);
        CHECKS.due("the greatest price", dear.priceOf(0), 171);
        dear.pass(1);
        CHECKS.due("the price in the second of the stroke", dear.priceOf(0), 0);
    }

    private static void promise12SecondsUntilStroke() {
        BellHush m = new BellHush();
        m.list(1, 4, 2);
        int[] waits = {2, 1, 4, 3, 2, 1, 4};
        for (int second = 0; second < waits.length; second++) {
            CHECKS.due("wait in second " + second, m.secondsUntilStroke(0), waits[second]);
            m.pass(1);
        }
        for (int period = 2; period <= 20; period++) {
            for (int beat = 0; beat < period; beat++) {
                waitLeadsToABeat(period, beat);
            }
        }
    }

    private static void waitLeadsToABeat(int period, int beat) {
        BellHush m = new BellHush();
        m.pass(37);
        m.list(1, period, beat);
        int wait = m.secondsUntilStroke(0);
        CHECKS.isTrue("wait is 1 to the period", wait >= 1 && wait <= period);
        CHECKS.due("beat of the second it strikes in", (37 + wait) % period, beat);
        CHECKS.due("strokes up to the stroke", m.pass(wait), 1);
        CHECKS.due("wait in a stroke", m.secondsUntilStroke(0), period);
    }

    private static void promise13StrokesOf() {
        BellHush m = new BellHush();
        m.list(1, 2, 0);
        m.pass(9);
        m.list(1, 3, 0);
        CHECKS.due("strokes in 9", m.strokesOf(0), 4);
        CHECKS.due("strokes as listed", m.strokesOf(1), 0);
        m.pass(2);
        CHECKS.due("strokes in 11 of a late one", m.strokesOf(1), 0);
        m.pass(1);
        CHECKS.due("strokes in 12 of a late one", m.strokesOf(1), 1);
        CHECKS.due("strokes in 12", m.strokesOf(0), 6);
        m.pass(60);
        CHECKS.due("strokes in 72", m.strokesOf(0), 36);
        CHECKS.due("strokes in 72 of a late one", m.strokesOf(1), 21);
    }

    private static void promise14OpenSeconds() {
        BellHush m = new BellHush();
        m.list(1, 20, 0);
        m.list(1, 20, 0);
        m.addTrader();
        m.addTrader();
        CHECKS.due("open at first", m.openSeconds(0), 0);
        m.buy(0, 0, 5);
        m.sell(1, 0, 3);
        CHECKS.due("5 and -3", m.openSeconds(0), 2);
        CHECKS.due("open elsewhere", m.openSeconds(1), 0);
        m.sell(1, 0, 6);
        CHECKS.due("5 and -9", m.openSeconds(0), -4);
        m.pass(20);
        CHECKS.due("open behind the stroke", m.openSeconds(0), 0);
    }

    private static void promise15Dearest() {
        BellHush m = new BellHush();
        CHECKS.due("dearest() without towers", m.dearest(), -1);
        m.list(2, 20, 0);
        m.list(4, 20, 0);
        m.list(4, 20, 0);
        m.addTrader();
        CHECKS.due("dearest() of all 0", m.dearest(), 0);
        m.pass(2);
        CHECKS.due("dearest() of two the same", m.dearest(), 1);
        m.sell(0, 1, 1);
        CHECKS.due("dearest() by a dove", m.dearest(), 2);
        m.sell(0, 2, 9);
        CHECKS.due("dearest() by more doves", m.dearest(), 1);
        m.pass(18);
        CHECKS.due("dearest() in the stroke of all", m.dearest(), 0);
    }

    private static void promise16NextToStrike() {
        BellHush m = new BellHush();
        CHECKS.due("nextToStrike() without towers", m.nextToStrike(), -1);
        m.list(1, 20, 5);
        CHECKS.due("nextToStrike() of one", m.nextToStrike(), 0);
        m.list(1, 7, 3);
        m.list(1, 9, 3);
        CHECKS.due("nextToStrike() of two the same", m.nextToStrike(), 1);
        m.pass(3);
        CHECKS.due("nextToStrike() behind a stroke", m.nextToStrike(), 0);
        m.pass(2);
        CHECKS.due("nextToStrike() in 5: 25, 10 or 12", m.nextToStrike(), 1);
        m.pass(5);
        CHECKS.due("nextToStrike() in 10: 25, 17 or 12", m.nextToStrike(), 2);
    }

    private static void refusals() {
        BellHush m = new BellHush();
        refusedFor(m, 0);
        m.list(1, 2, 0);
        m.list(1, 2, 0);
        int[] bad = {-1, 2, 8, Integer.MIN_VALUE, Integer.MAX_VALUE};
        for (int i : bad) {
            refusedFor(m, i);
        }
        for (int tower = 2; tower < 8; tower++) {
            m.list(1, 2, 0);
        }
        refusedFor(m, 8);
    }

    private static void refusedFor(BellHush m, int tower) {
        CHECKS.refused("silenceOf(" + tower + ")", m, INDEX, () -> m.silenceOf(tower));
        CHECKS.refused("dovesOn(" + tower + ")", m, INDEX, () -> m.dovesOn(tower));
        CHECKS.refused("priceOf(" + tower + ")", m, INDEX, () -> m.priceOf(tower));
        CHECKS.refused("secondsUntilStroke(" + tower + ")", m, INDEX, () -> m.secondsUntilStroke(tower));
        CHECKS.refused("strokesOf(" + tower + ")", m, INDEX, () -> m.strokesOf(tower));
        CHECKS.refused("openSeconds(" + tower + ")", m, INDEX, () -> m.openSeconds(tower));
    }
}

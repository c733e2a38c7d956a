/** Promises 7 to 16: towers. */
public final class TowersTest {
    private static final String INDEX = "Throws IndexOutOfBoundsException if there is no such tower";
    private static final Checks CHECKS = new Checks();
    private static final Edges EDGES = new Edges(CHECKS);

    public static void main(String[] args) {
        CHECKS.run(TowersTest.class);
    }

    // ---- Promise 7: second

    @Holds(at = "Promise 7", says = "Returns the second.")
    static void secondGoesOnByPassAlone() {
        BellHush m = new BellHush();
        CHECKS.due("at first", m.second(), 0);
        m.pass(1);
        CHECKS.due("behind 1", m.second(), 1);
        m.pass(60);
        CHECKS.due("behind 61", m.second(), 61);
        m.list(1, 2, 0);
        m.addTrader();
        m.sell(0, 0, 1);
        m.buy(0, 0, 1);
        CHECKS.due("behind calls that take no time", m.second(), 61);
        m.pass(3);
        CHECKS.due("over a stroke", m.second(), 64);
    }

    // ---- Promise 8: towers

    @Holds(at = "Promise 8", says = "Returns how many towers there are.")
    static void towersFromNoneTo8() {
        BellHush m = new BellHush();
        for (int tower = 0; tower < 8; tower++) {
            CHECKS.due("towers()", m.towers(), tower);
            m.list(1, 2, 0);
        }
        CHECKS.due("towers(), full", m.towers(), 8);
        m.addTrader();
        CHECKS.due("towers() beside a trader", m.towers(), 8);
        CHECKS.throwsJust("a ninth", m, Checks.STATE, c -> c.list(1, 2, 0));
        CHECKS.due("towers() behind a refused ninth", m.towers(), 8);
        m.pass(60);
        CHECKS.due("towers() behind strokes", m.towers(), 8);
    }

    // ---- Promise 9: silenceOf

    @Holds(at = "Promise 9", says = "Returns its silence.")
    static void silenceFromListingOverStrokes() {
        BellHush m = new BellHush();
        m.pass(7);
        m.list(1, 5, 4);
        CHECKS.due("as listed in 7", m.silenceOf(0), 0);
        m.pass(1);
        CHECKS.due("in 8", m.silenceOf(0), 1);
        m.pass(1);
        CHECKS.due("in 9, a stroke", m.silenceOf(0), 0);
        m.pass(4);
        CHECKS.due("in 13", m.silenceOf(0), 4);
        m.pass(1);
        CHECKS.due("in 14, a stroke", m.silenceOf(0), 0);
        m.pass(13);
        CHECKS.due("in 27, over two strokes", m.silenceOf(0), 3);
    }

    @Holds(at = "Promise 9", says = "Returns its silence.")
    static void silenceFrom0To19() {
        BellHush m = new BellHush();
        m.list(1, 20, 0);
        m.list(1, 2, 0);
        for (int second = 0; second <= 45; second++) {
            CHECKS.due("period 20 in " + second, m.silenceOf(0), second % 20);
            CHECKS.due("period 2 in " + second, m.silenceOf(1), second % 2);
            m.pass(1);
        }
    }

    @Holds(at = "Promise 9", says = "Returns its silence.")
    static void tradersDoNotBreakTheSilence() {
        BellHush m = new Script().list(1, 20, 0).traders(1).pass(3).sell(0, 0, 9).make();
        CHECKS.due("behind sell", m.silenceOf(0), 3);
        m.buy(0, 0, 1);
        CHECKS.due("behind buy", m.silenceOf(0), 3);
    }

    @Holds(at = "Promise 9", says = INDEX)
    static void silenceOfNoSuchTower() {
        EDGES.noSuchTower("silenceOf", (m, tower) -> m.silenceOf(tower));
    }

    // ---- Promise 10: dovesOn

    @Holds(at = "Promise 10", says = "Returns how many doves are on it.")
    static void noDovesWithoutTradersOrTrades() {
        BellHush m = new BellHush();
        m.list(9, 20, 0);
        CHECKS.due("without traders", m.dovesOn(0), 0);
        m.addTrader();
        CHECKS.due("nothing held", m.dovesOn(0), 0);
        m.buy(0, 0, 9);
        CHECKS.due("9 held", m.dovesOn(0), 0);
    }

    @Holds(at = "Promise 10", says = "Returns how many doves are on it.")
    static void dovesComeAndGoWithWhatIsShort() {
        BellHush m = new Script().towers(2, 9, 20, 0).traders(6).sell(0, 0, 3).buy(1, 0, 9).make();
        CHECKS.due("3 sold beside 9 held", m.dovesOn(0), 3);
        for (int trader = 2; trader < 6; trader++) {
            m.sell(trader, 0, 9);
        }
        CHECKS.due("3 and four times 9", m.dovesOn(0), 39);
        CHECKS.due("the other tower", m.dovesOn(1), 0);
        m.buy(0, 0, 2);
        CHECKS.due("2 of 3 bought back", m.dovesOn(0), 37);
        m.buy(0, 0, 4);
        CHECKS.due("more bought back than sold", m.dovesOn(0), 36);
        m.pass(19);
        CHECKS.due("ahead of the stroke", m.dovesOn(0), 36);
        m.pass(1);
        CHECKS.due("behind the stroke", m.dovesOn(0), 0);
    }

    @Holds(at = "Promise 10", says = "Returns how many doves are on it.")
    static void atMost54Doves() {
        BellHush m = new Script().towers(2, 9, 20, 0).traders(6).make();
        for (int trader = 0; trader < 6; trader++) {
            m.sell(trader, 1, 9);
            CHECKS.due("9 of each of " + (trader + 1), m.dovesOn(1), 9 * (trader + 1));
        }
        CHECKS.due("the other tower", m.dovesOn(0), 0);
    }

    @Holds(at = "Promise 10", says = INDEX)
    static void dovesOnNoSuchTower() {
        EDGES.noSuchTower("dovesOn", (m, tower) -> m.dovesOn(tower));
    }

    // ---- Promise 11: priceOf

    @Holds(at = "Promise 11", says = "Returns the price of a second of it.")
    static void priceFrom0To171() {
        BellHush m = new Script().list(9, 20, 0).make();
        CHECKS.due("as listed", m.priceOf(0), 0);
        m.pass(1);
        CHECKS.due("a second later", m.priceOf(0), 9);
        m.pass(18);
        CHECKS.due("the greatest", m.priceOf(0), 171);
        m.pass(1);
        CHECKS.due("in the stroke", m.priceOf(0), 0);
    }

    @Holds(at = "Promise 11", says = "Returns the price of a second of it.")
    static void priceUnderDoves() {
        BellHush m = new Script().list(3, 20, 0).traders(1).pass(2).make();
        CHECKS.due("without doves", m.priceOf(0), 6);
        m.sell(0, 0, 2);
        CHECKS.due("under 2", m.priceOf(0), 2);
        m.sell(0, 0, 1);
        CHECKS.due("under 3, just 0", m.priceOf(0), 0);
        m.sell(0, 0, 1);
        CHECKS.due("under 4, not less than 0", m.priceOf(0), 0);
        m.pass(1);
        CHECKS.due("under 4, a second later", m.priceOf(0), 1);
        m.list(5, 20, 0);
        m.pass(1);
        CHECKS.due("of the second tower, without doves", m.priceOf(1), 5);
        CHECKS.due("of the first beside it", m.priceOf(0), 4);
    }

    @Holds(at = "Promise 11", says = "Returns the price of a second of it.")
    static void priceBehindAStrokeIsFreeOfDoves() {
        BellHush m = new Script().list(3, 5, 0).traders(1).sell(0, 0, 9).pass(5).make();
        CHECKS.due("in the stroke", m.priceOf(0), 0);
        m.pass(1);
        CHECKS.due("behind it", m.priceOf(0), 3);
    }

    @Holds(at = "Promise 11", says = INDEX)
    static void priceOfNoSuchTower() {
        EDGES.noSuchTower("priceOf", (m, tower) -> m.priceOf(tower));
    }

    // ---- Promise 12: secondsUntilStroke

    @Holds(at = "Promise 12", says = "Returns behind how many seconds it strikes the next time,")
    static void waitCountsDownToTheStroke() {
        BellHush m = new BellHush();
        m.list(1, 4, 2);
        int[] waits = {2, 1, 4, 3, 2, 1, 4};
        for (int second = 0; second < waits.length; second++) {
            CHECKS.due("in second " + second, m.secondsUntilStroke(0), waits[second]);
            m.pass(1);
        }
    }

    @Holds(at = "Promise 12", says = "Returns behind how many seconds it strikes the next time,")
    static void waitLeadsToASecondThatLeavesTheBeat() {
        for (int period = 2; period <= 20; period++) {
            for (int beat = 0; beat < period; beat++) {
                BellHush m = new BellHush();
                m.pass(37);
                m.list(1, period, beat);
                int wait = m.secondsUntilStroke(0);
                CHECKS.isTrue("1 to the period: " + wait, wait >= 1 && wait <= period);
                CHECKS.due("what its second leaves, divided by the period", (37 + wait) % period, beat);
                CHECKS.due("strokes up to it", m.pass(wait), 1);
                CHECKS.due("strokes of the tower", m.strokesOf(0), 1);
                CHECKS.due("in the stroke", m.secondsUntilStroke(0), period);
            }
        }
    }

    @Holds(at = "Promise 12", says = "Returns behind how many seconds it strikes the next time,")
    static void waitOverSeveralPeriodsAtOnce() {
        for (int seconds = 1; seconds <= 60; seconds++) {
            BellHush m = new Script().list(1, 7, 3).pass(seconds).make();
            int next = seconds + 1;
            while (next % 7 != 3) {
                next++;
            }
            CHECKS.due("behind pass(" + seconds + ")", m.secondsUntilStroke(0), next - seconds);
        }
    }

    @Holds(at = "Promise 12", says = "at least 1.")
    static void waitIsAtLeast1() {
        for (int period = 2; period <= 20; period++) {
            BellHush m = new Script().list(1, period, 0).make();
            CHECKS.due("listed in a second of its beat", m.secondsUntilStroke(0), period);
            m.pass(period - 1);
            CHECKS.due("a second ahead of the stroke", m.secondsUntilStroke(0), 1);
            m.pass(1);
            CHECKS.due("in the stroke, not 0", m.secondsUntilStroke(0), period);
        }
    }

    @Holds(at = "Promise 12", says = INDEX)
    static void secondsUntilStrokeOfNoSuchTower() {
        EDGES.noSuchTower("secondsUntilStroke", (m, tower) -> m.secondsUntilStroke(tower));
    }

    // ---- Promise 13: strokesOf

    @Holds(at = "Promise 13", says = "Returns how often it struck since it was listed.")
    static void strokesSinceListing() {
        BellHush m = new BellHush();
        m.list(1, 2, 0);
        CHECKS.due("as listed in a second of its beat", m.strokesOf(0), 0);
        m.pass(9);
        m.list(1, 3, 0);
        CHECKS.due("in 9", m.strokesOf(0), 4);
        CHECKS.due("in 9, as listed in a second of its beat", m.strokesOf(1), 0);
        m.pass(2);
        CHECKS.due("in 11 of the late one", m.strokesOf(1), 0);
        m.pass(1);
        CHECKS.due("in 12 of the late one", m.strokesOf(1), 1);
        CHECKS.due("in 12", m.strokesOf(0), 6);
        m.pass(60);
        CHECKS.due("in 72", m.strokesOf(0), 36);
        CHECKS.due("in 72 of the late one", m.strokesOf(1), 21);
    }

    @Holds(at = "Promise 13", says = "Returns how often it struck since it was listed.")
    static void strokesOfEachTowerComeToThoseOfPass() {
        BellHush m = new BellHush();
        for (int tower = 0; tower < 8; tower++) {
            m.list(1, 2 + tower, tower);
        }
        int passed = 0;
        for (int i = 0; i < 20; i++) {
            passed += m.pass(17);
            int sum = 0;
            for (int tower = 0; tower < 8; tower++) {
                sum += m.strokesOf(tower);
            }
            CHECKS.due("added, in " + m.second(), sum, passed);
        }
    }

    @Holds(at = "Promise 13", says = INDEX)
    static void strokesOfNoSuchTower() {
        EDGES.noSuchTower("strokesOf", (m, tower) -> m.strokesOf(tower));
    }

    // ---- Promise 14: openSeconds

    @Holds(at = "Promise 14", says = "Returns the seconds of it that all traders hold, added,")
    static void openSecondsOfAllAreAdded() {
        BellHush m = new BellHush();
        m.list(1, 20, 0);
        m.list(1, 20, 10);
        CHECKS.due("without traders", m.openSeconds(0), 0);
        for (int trader = 0; trader < 6; trader++) {
            m.addTrader();
            CHECKS.due("nothing held by the new one", m.openSeconds(0), trader * 9);
            m.buy(trader, 0, 9);
        }
        CHECKS.due("9 of each of 6", m.openSeconds(0), 54);
        CHECKS.due("the other tower", m.openSeconds(1), 0);
        m.buy(0, 1, 2);
        m.pass(10);
        CHECKS.due("closed by its stroke", m.openSeconds(1), 0);
        CHECKS.due("not closed by another's stroke", m.openSeconds(0), 54);
        m.pass(10);
        CHECKS.due("closed by the stroke", m.openSeconds(0), 0);
    }

    @Holds(at = "Promise 14", says = "each with its sign: so 5 and -3 come to 2.")
    static void openSecondsAreAddedWithTheirSigns() {
        BellHush m = new Script().list(1, 20, 0).traders(6).buy(0, 0, 5).sell(1, 0, 3).make();
        CHECKS.due("5 and -3", m.openSeconds(0), 2);
        m.sell(1, 0, 2);
        CHECKS.due("5 and -5", m.openSeconds(0), 0);
        m.sell(1, 0, 4);
        CHECKS.due("5 and -9", m.openSeconds(0), -4);
        BellHush full = new Script().list(1, 20, 0).traders(6).make();
        for (int trader = 0; trader < 6; trader++) {
            full.sell(trader, 0, 9);
        }
        CHECKS.due("-9 of each of 6", full.openSeconds(0), -54);
    }

    @Holds(at = "Promise 14", says = INDEX)
    static void openSecondsOfNoSuchTower() {
        EDGES.noSuchTower("openSeconds", (m, tower) -> m.openSeconds(tower));
    }

    // ---- Promise 15: dearest

    @Holds(at = "Promise 15", says = "Returns the tower with the greatest price,")
    static void dearestByThePriceOfNow() {
        BellHush m = new Script().list(9, 3, 0).list(2, 20, 0).list(1, 20, 0).traders(1).pass(2).make();
        CHECKS.due("18, 4 and 2", m.dearest(), 0);
        m.pass(1);
        CHECKS.due("0, 6 and 3", m.dearest(), 1);
        m.sell(0, 1, 2);
        CHECKS.due("0, 2 and 3", m.dearest(), 2);
        for (int tower = 0; tower < 8; tower++) {
            BellHush full = new BellHush();
            for (int i = 0; i < 8; i++) {
                full.list(i == tower ? 5 : 4, 20, 0);
            }
            full.pass(1);
            CHECKS.due("5 among 4s, full", full.dearest(), tower);
        }
    }

    @Holds(at = "Promise 15", says = "of several the smallest number;")
    static void dearestOfSeveral() {
        BellHush m = new Script().list(2, 20, 0).list(4, 20, 0).list(4, 20, 0).traders(1).make();
        CHECKS.due("all 0", m.dearest(), 0);
        m.pass(2);
        CHECKS.due("4, 8 and 8", m.dearest(), 1);
        m.sell(0, 1, 2);
        CHECKS.due("4, 4 and 8", m.dearest(), 2);
        m.sell(0, 2, 2);
        CHECKS.due("4, 4 and 4", m.dearest(), 0);
        m.pass(18);
        CHECKS.due("all 0 in the stroke of all", m.dearest(), 0);
        CHECKS.due("8 alike", new Script().towers(8, 9, 20, 0).pass(19).make().dearest(), 0);
    }

    @Holds(at = "Promise 15", says = "-1 without towers.")
    static void dearestWithoutTowers() {
        CHECKS.due("in a new market", new BellHush().dearest(), -1);
        CHECKS.due("with traders", new Script().traders(6).pass(5).make().dearest(), -1);
        CHECKS.due("with one tower at 0", new Script().list(1, 2, 0).make().dearest(), 0);
    }

    // ---- Promise 16: nextToStrike

    @Holds(at = "Promise 16", says = "Returns the tower that strikes next,")
    static void nextByTheSecondsUntilTheStroke() {
        BellHush m = new BellHush();
        m.list(1, 20, 5);
        CHECKS.due("of one", m.nextToStrike(), 0);
        m.list(9, 7, 3);
        m.list(1, 9, 4);
        CHECKS.due("in 0: 5, 3 or 4", m.nextToStrike(), 1);
        m.pass(3);
        CHECKS.due("in 3, behind its stroke: 5, 10 or 4", m.nextToStrike(), 2);
        m.pass(1);
        CHECKS.due("in 4: 5, 10 or 13", m.nextToStrike(), 0);
        m.pass(1);
        CHECKS.due("in 5: 25, 10 or 13", m.nextToStrike(), 1);
        for (int tower = 0; tower < 8; tower++) {
            BellHush full = new BellHush();
            for (int i = 0; i < 8; i++) {
                full.list(1, 20, i == tower ? 18 : 19);
            }
            CHECKS.due("18 among 19s, full", full.nextToStrike(), tower);
        }
    }

    @Holds(at = "Promise 16", says = "of several the smallest number;")
    static void nextOfSeveral() {
        BellHush m = new Script().list(1, 20, 5).list(1, 7, 3).list(1, 9, 3).make();
        CHECKS.due("in 0: 5, 3 or 3", m.nextToStrike(), 1);
        m.pass(3);
        m.list(1, 20, 5);
        CHECKS.due("in 3: 5, 10, 12 or 5", m.nextToStrike(), 0);
        CHECKS.due("8 alike", new Script().towers(8, 9, 20, 0).make().nextToStrike(), 0);
        CHECKS.due("8 alike, in the stroke", new Script().towers(8, 9, 20, 0).pass(20).make().nextToStrike(), 0);
    }

    @Holds(at = "Promise 16", says = "-1 without towers.")
    static void nextWithoutTowers() {
        CHECKS.due("in a new market", new BellHush().nextToStrike(), -1);
        CHECKS.due("with traders", new Script().traders(6).pass(5).make().nextToStrike(), -1);
    }
}

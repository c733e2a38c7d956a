/** Promises 17 to 23: traders. */
public final class TradersTest {
    private static final String INDEX = "Throws IndexOutOfBoundsException if there is no such trader";
    private static final Checks CHECKS = new Checks();
    private static final Edges EDGES = new Edges(CHECKS);

    public static void main(String[] args) {
        CHECKS.run(TradersTest.class);
    }

    // ---- Promise 17: traders

    @Holds(at = "Promise 17", says = "Returns how many traders there are.")
    static void tradersFromNoneTo6() {
        BellHush m = new BellHush();
        for (int trader = 0; trader < 6; trader++) {
            CHECKS.due("traders()", m.traders(), trader);
            m.addTrader();
        }
        CHECKS.due("traders(), full", m.traders(), 6);
        m.list(1, 2, 0);
        CHECKS.due("traders() beside a tower", m.traders(), 6);
        CHECKS.throwsJust("a seventh", m, Checks.STATE, c -> c.addTrader());
        CHECKS.due("traders() behind a refused seventh", m.traders(), 6);
        m.sell(0, 0, 9);
        m.pass(60);
        CHECKS.due("traders() behind strokes", m.traders(), 6);
    }

    // ---- Promise 18: purseOf

    @Holds(at = "Promise 18", says = "Returns the purse.")
    static void purseBehindTradesAndStrokes() {
        BellHush m = market(2, 2);
        CHECKS.due("at first", m.purseOf(0), 100);
        m.pass(3);
        m.buy(0, 0, 2);
        CHECKS.due("behind buying 2 at 27", m.purseOf(0), 46);
        m.sell(0, 0, 1);
        CHECKS.due("behind selling 1 at 27", m.purseOf(0), 73);
        m.sell(1, 1, 5);
        CHECKS.due("behind selling 5 short at 27", m.purseOf(1), 235);
        m.pass(16);
        CHECKS.due("ahead of the stroke", m.purseOf(0), 73);
        m.pass(1);
        CHECKS.due("closed at 171", m.purseOf(0), 73 + 171);
        CHECKS.due("closed at 161 for 5 short", m.purseOf(1), 235 - 5 * 161);
    }

    @Holds(at = "Promise 18", says = "Returns the purse.")
    static void purseOf0AndLess() {
        BellHush m = new Script().list(5, 20, 0).traders(1).pass(4).buy(0, 0, 5).make();
        CHECKS.due("all spent", m.purseOf(0), 0);
        BellHush debt = market(1, 1);
        debt.sell(0, 0, 9);
        debt.pass(20);
        CHECKS.due("in debt", debt.purseOf(0), -1277);
    }

    @Holds(at = "Promise 18", says = "Returns the purse.")
    static void purseOfAFullMarket() {
        BellHush m = market(8, 6);
        for (int tower = 0; tower < 8; tower++) {
            m.buy(0, tower, 9);
        }
        m.pass(20);
        CHECKS.due("9 of each of 8 at 171", m.purseOf(0), 100 + 72 * 171);
        for (int tower = 0; tower < 8; tower++) {
            m.sell(5, tower, 9);
        }
        m.pass(20);
        CHECKS.due("-9 of each of 8 at 153", m.purseOf(5), 100 - 72 * 153);
        CHECKS.due("another one", m.purseOf(3), 100);
    }

    @Holds(at = "Promise 18", says = INDEX)
    static void purseOfNoSuchTrader() {
        EDGES.noSuchTrader("purseOf", (m, trader) -> m.purseOf(trader));
    }

    // ---- Promise 19: holds

    @Holds(at = "Promise 19", says = "Returns how many seconds of it this one holds.")
    static void holdsOfEachTraderAndTower() {
        BellHush m = market(2, 2);
        m.buy(0, 1, 9);
        m.sell(1, 0, 9);
        CHECKS.due("holds(0, 0)", m.holds(0, 0), 0);
        CHECKS.due("holds(0, 1)", m.holds(0, 1), 9);
        CHECKS.due("holds(1, 0)", m.holds(1, 0), -9);
        CHECKS.due("holds(1, 1)", m.holds(1, 1), 0);
        m.pass(20);
        CHECKS.due("holds(0, 1) behind the stroke", m.holds(0, 1), 0);
        CHECKS.due("holds(1, 0) behind the stroke", m.holds(1, 0), 0);
    }

    @Holds(at = "Promise 19", says = "Returns how many seconds of it this one holds.")
    static void holdsInAFullMarket() {
        BellHush m = market(8, 6);
        for (int trader = 0; trader < 6; trader++) {
            for (int tower = 0; tower < 8; tower++) {
                m.buy(trader, tower, 1 + (trader + tower) % 9);
            }
        }
        for (int trader = 0; trader < 6; trader++) {
            for (int tower = 0; tower < 8; tower++) {
                CHECKS.due("holds(" + trader + ", " + tower + ")", m.holds(trader, tower), 1 + (trader + tower) % 9);
            }
        }
    }

    @Holds(at = "Promise 19", says = "Throws IndexOutOfBoundsException if there is no such trader or tower")
    static void holdsOfNoSuchTrader() {
        EDGES.noSuchTrader("holds, trader,", (m, trader) -> m.holds(trader, 0));
        CHECKS.refused("holds(6, 8) of 6 and 8", new Script().towers(8, 1, 2, 0).traders(6), Checks.INDEX,
            m -> m.holds(6, 8));
    }

    @Holds(at = "Promise 19", says = "Throws IndexOutOfBoundsException if there is no such trader or tower")
    static void holdsOfNoSuchTower() {
        EDGES.noSuchTower("holds, tower,", (m, tower) -> m.holds(0, tower));
    }

    // ---- Promise 20: worthOf

    @Holds(at = "Promise 20", says = "Returns the purse,")
    static void worthOfOneWithoutAnyIsThePurse() {
        BellHush m = market(2, 2);
        CHECKS.due("at first", m.worthOf(0), 100);
        m.sell(0, 0, 9);
        m.pass(20);
        CHECKS.due("in debt", m.worthOf(0), 100 - 9 * 153);
        CHECKS.due("without towers", new Script().traders(1).make().worthOf(0), 100);
    }

    @Holds(at = "Promise 20", says = "and what all seconds that this one holds are worth at the prices of now.")
    static void worthOfWhatIsHeldAndShort() {
        BellHush m = market(2, 2);
        m.pass(1);
        m.buy(0, 0, 3);
        m.sell(0, 1, 2);
        CHECKS.due("91, 3 at 9, less 2 at 5", m.worthOf(0), 100 - 27 + 18 + 27 - 10);
        m.pass(2);
        CHECKS.due("91, 3 at 27, less 2 at 23", m.worthOf(0), 91 + 81 - 46);
        m.sell(1, 0, 9);
        CHECKS.due("under another's doves: 3 at 9", m.worthOf(0), 91 + 27 - 46);
        m.pass(17);
        CHECKS.due("behind the stroke, the purse", m.worthOf(0), m.purseOf(0));
    }

    @Holds(at = "Promise 20", says = "and what all seconds that this one holds are worth at the prices of now.")
    static void worthInAFullMarket() {
        BellHush m = market(8, 6);
        for (int tower = 0; tower < 8; tower++) {
            m.buy(0, tower, 9);
            m.sell(5, tower, 9);
        }
        CHECKS.due("at prices of 0", m.worthOf(0), 100);
        m.pass(19);
        CHECKS.due("9 of each of 8 at 153", m.worthOf(0), 100 + 72 * 153);
        CHECKS.due("-9 of each of 8 at 153", m.worthOf(5), 100 - 72 * 153);
    }

    @Holds(at = "Promise 20", says = INDEX)
    static void worthOfNoSuchTrader() {
        EDGES.noSuchTrader("worthOf", (m, trader) -> m.worthOf(trader));
    }

    // ---- Promise 21: richest

    @Holds(at = "Promise 21", says = "Returns the trader with the greatest worth,")
    static void richestByWorthNotByPurse() {
        BellHush m = market(1, 3);
        m.pass(1);
        m.buy(2, 0, 1);
        m.pass(1);
        CHECKS.due("91 and 18 against 100", m.richest(), 2);
        m.buy(1, 0, 3);
        m.pass(1);
        CHECKS.due("46 and 81 against 91 and 27", m.richest(), 1);
        m.sell(0, 0, 9);
        CHECKS.due("343 less 81, against 46 and 27", m.richest(), 0);
        for (int trader = 0; trader < 6; trader++) {
            BellHush full = market(1, 6);
            full.buy(trader, 0, 1);
            full.pass(1);
            CHECKS.due("one of 6", full.richest(), trader);
        }
    }

    @Holds(at = "Promise 21", says = "Returns the trader with the greatest worth,")
    static void richestByTheWorthOfNowNotOfLater() {
        BellHush m = new Script().list(9, 20, 0).list(1, 20, 0).traders(2).pass(1).buy(1, 1, 4).pass(1)
            .buy(0, 0, 4).make();
        CHECKS.due("4 bought at 18, worth 18", m.worthOf(0), 100);
        CHECKS.due("4 bought at 1, worth 2", m.worthOf(1), 104);
        CHECKS.due("104 now, where 100 will be 136 in a second", m.richest(), 1);
        m.pass(1);
        CHECKS.due("a second later", m.richest(), 0);
    }

    @Holds(at = "Promise 21", says = "Returns the trader with the greatest worth,")
    static void richestWhereAllHaveLessThan0() {
        BellHush m = market(2, 2);
        m.sell(0, 0, 9);
        m.sell(1, 0, 8);
        m.pass(20);
        CHECKS.due("the one with less debt", m.richest(), 1);
        CHECKS.due("debts", m.inDebt(), 2);
    }

    @Holds(at = "Promise 21", says = "of several the smallest number;")
    static void richestOfSeveral() {
        BellHush m = market(1, 6);
        CHECKS.due("6 the same", m.richest(), 0);
        m.pass(1);
        m.buy(4, 0, 1);
        m.buy(2, 0, 1);
        CHECKS.due("6 the same, by other ways", m.richest(), 0);
        m.pass(1);
        CHECKS.due("two the same, ahead of the rest", m.richest(), 2);
    }

    @Holds(at = "Promise 21", says = "-1 without traders.")
    static void richestWithoutTraders() {
        CHECKS.due("in a new market", new BellHush().richest(), -1);
        CHECKS.due("with towers", market(8, 0).richest(), -1);
        BellHush one = market(1, 1);
        one.sell(0, 0, 9);
        one.pass(20);
        CHECKS.due("one in debt", one.richest(), 0);
    }

    // ---- Promise 22: shortsOf

    @Holds(at = "Promise 22", says = "Returns how many towers this one holds less than 0 of.")
    static void shortsFromNoneTo8() {
        BellHush m = market(8, 2);
        CHECKS.due("at first", m.shortsOf(0), 0);
        for (int tower = 0; tower < 8; tower++) {
            m.sell(0, tower, tower + 1);
            CHECKS.due("behind selling of tower " + tower, m.shortsOf(0), tower + 1);
        }
        CHECKS.due("the other one", m.shortsOf(1), 0);
        m.sell(0, 0, 8);
        CHECKS.due("9 of one tower are one tower", m.shortsOf(0), 8);
        m.pass(20);
        CHECKS.due("behind the stroke", m.shortsOf(0), 0);
        CHECKS.due("without towers", new Script().traders(1).make().shortsOf(0), 0);
    }

    @Holds(at = "Promise 22", says = "Returns how many towers this one holds less than 0 of.")
    static void shortsNeither0NorMore() {
        BellHush m = market(3, 1);
        m.buy(0, 0, 1);
        CHECKS.due("1 held", m.shortsOf(0), 0);
        m.sell(0, 0, 1);
        CHECKS.due("just 0", m.shortsOf(0), 0);
        m.sell(0, 0, 1);
        CHECKS.due("1 short", m.shortsOf(0), 1);
        m.sell(0, 1, 1);
        m.buy(0, 2, 9);
        CHECKS.due("two towers of three", m.shortsOf(0), 2);
        m.buy(0, 0, 1);
        CHECKS.due("one bought back to just 0", m.shortsOf(0), 1);
    }

    @Holds(at = "Promise 22", says = INDEX)
    static void shortsOfNoSuchTrader() {
        EDGES.noSuchTrader("shortsOf", (m, trader) -> m.shortsOf(trader));
    }

    // ---- Promise 23: inDebt

    @Holds(at = "Promise 23", says = "Returns how many traders have a purse of less than 0.")
    static void noneInDebt() {
        CHECKS.due("without traders", new BellHush().inDebt(), 0);
        CHECKS.due("6 at first", market(1, 6).inDebt(), 0);
        BellHush empty = new Script().list(5, 20, 0).traders(1).pass(4).buy(0, 0, 5).make();
        CHECKS.due("a purse of 0", empty.inDebt(), 0);
    }

    @Holds(at = "Promise 23", says = "Returns how many traders have a purse of less than 0.")
    static void aPurseOf0IsNoDebtOneOfMinus1Is() {
        BellHush even = new Script().list(6, 6, 0).traders(1).sell(0, 0, 5).pass(6).make();
        CHECKS.due("purse, 5 closed at 30 - 10", even.purseOf(0), 0);
        CHECKS.due("no debt", even.inDebt(), 0);
        BellHush debt = new Script().list(9, 14, 0).traders(3).sell(0, 0, 1).sell(1, 0, 7).pass(14).make();
        CHECKS.due("purse, 1 closed at 117 - 16", debt.purseOf(0), -1);
        CHECKS.due("purse, 7 closed at 117 - 16", debt.purseOf(1), 100 - 707);
        CHECKS.due("two of three", debt.inDebt(), 2);
    }

    @Holds(at = "Promise 23", says = "Returns how many traders have a purse of less than 0.")
    static void debtIsByThePurseNotByTheWorth() {
        BellHush m = market(1, 2);
        m.sell(0, 0, 9);
        m.pass(19);
        CHECKS.isTrue("worth less than 0", m.worthOf(0) < 0);
        CHECKS.due("ahead of the stroke", m.inDebt(), 0);
        m.pass(1);
        CHECKS.due("behind the stroke", m.inDebt(), 1);
    }

    @Holds(at = "Promise 23", says = "Returns how many traders have a purse of less than 0.")
    static void all6InDebt() {
        BellHush m = market(6, 6);
        for (int trader = 0; trader < 6; trader++) {
            m.sell(trader, trader, 9);
        }
        m.pass(20);
        CHECKS.due("all", m.inDebt(), 6);
    }

    // ---- helpers

    /** Towers of loudness 9 that strike in 20, 40, .. */
    private static BellHush market(int towers, int traders) {
        return new Script().towers(towers, 9, 20, 0).traders(traders).make();
    }
}

/** Promises 17 to 23. */
public final class TradersTest {
    private static final Class<IndexOutOfBoundsException> INDEX = IndexOutOfBoundsException.class;
    private static final Checks CHECKS = new Checks();

    public static void main(String[] args) {
        promise17Traders();
        promise18PurseOf();
        promise19Holds();
        promise20WorthOf();
        promise21Richest();
        promise22ShortsOf();
        promise23InDebt();
        refusals();
        CHECKS.end("TradersTest");
    }

    private static void promise17Traders() {
        BellHush m = new BellHush();
        for (int trader = 0; trader < 6; trader++) {
            CHECKS.due("traders()", m.traders(), trader);
            m.addTrader();
        }
        CHECKS.due("traders() of 6", m.traders(), 6);
        m.list(1, 2, 0);
        CHECKS.due("traders() beside a tower", m.traders(), 6);
    }

    private static void promise18PurseOf() {
        BellHush m = market(2, 2);
        CHECKS.due("purse at first", m.purseOf(0), 100);
        m.pass(3);
        m.buy(0, 0, 2);
        CHECKS.due("purse behind buying 2 at 27", m.purseOf(0), 46);
        m.sell(0, 0, 1);
        CHECKS.due("purse behind selling 1 at 27", m.purseOf(0), 73);
        m.sell(1, 1, 5);
        CHECKS.due("purse behind selling 5 short at 27", m.purseOf(1), 235);
        m.pass(17);
        CHECKS.due("purse closed at 171", m.purseOf(0), 73 + 171);
        CHECKS.due("purse closed at 161 for 5 short", m.purseOf(1), 235 - 5 * 161);
    }

    private static void promise19Holds() {
        BellHush m = market(2, 2);
        m.buy(0, 1, 9);
        m.sell(1, 0, 9);
        CHECKS.due("holds(0, 0)", m.holds(0, 0), 0);
        CHECKS.due("holds(0, 1)", m.holds(0, 1), 9);
        CHECKS.due("holds(1, 0)", m.holds(1, 0), -9);
        CHECKS.due("holds(1, 1)", m.holds(1, 1), 0);
        m.pass(20);
        CHECKS.due("holds(0, 1) behind the stroke", m.holds(0, 1), 0);
        CHECKS.due("holds(1, 0) behind the stroke", m.holds(1, 0), 0);
    }

    private static void promise20WorthOf() {
        BellHush m = market(2, 2);
        m.pass(1);
        m.buy(0, 0, 3);
        m.sell(0, 1, 2);
        CHECKS.due("worth: 91, 3 at 9, less 2 at 5", m.worthOf(0), 100 - 27 + 18 + 27 - 10);
        m.pass(2);
        CHECKS.due("worth: 91, 3 at 27, less 2 at 23", m.worthOf(0), 91 + 81 - 46);
        CHECKS.due("worth of one without any", m.worthOf(1), 100);
        m.sell(1, 0, 9);
        CHECKS.due("worth of a holder under another's doves", m.worthOf(0), 91 + 27 - 46);
    }

    private static void promise21Richest() {
        BellHush m = new BellHush();
        CHECKS.due("richest() without traders", m.richest(), -1);
        m.list(9, 20, 0);
        CHECKS.due("richest() without traders, with a tower", m.richest(), -1);
        m.addTrader();
        m.addTrader();
        m.addTrader();
        CHECKS.due("richest() of three the same", m.richest(), 0);
        m.pass(1);
        m.buy(2, 0, 1);
        m.buy(1, 0, 1);
        CHECKS.due("richest() by worth, not by purse", m.richest(), 0);
        m.pass(1);
        CHECKS.due("richest() of two the same", m.richest(), 1);
        m.buy(2, 0, 1);
        m.pass(1);
        CHECKS.due("richest() by one more held", m.richest(), 2);
        BellHush less = market(1, 1);
        less.sell(0, 0, 9);
        less.pass(20);
        CHECKS.due("richest() of one with less than 0", less.richest(), 0);
    }

    private static void promise22ShortsOf() {
        BellHush m = market(8, 2);
        CHECKS.due("shorts at first", m.shortsOf(0), 0);
        m.buy(0, 0, 1);
        CHECKS.due("shorts with held ones", m.shortsOf(0), 0);
        for (int tower = 0; tower < 8; tower++) {
            m.sell(0, tower, 2);
        }
        CHECKS.due("shorts of all 8", m.shortsOf(0), 8);
        CHECKS.due("shorts of the other", m.shortsOf(1), 0);
        m.buy(0, 0, 1);
        CHECKS.due("shorts with one bought back to 0", m.shortsOf(0), 7);
        m.pass(20);
        CHECKS.due("shorts behind the stroke", m.shortsOf(0), 0);
    }

    private static void promise23InDebt() {
        BellHush m = new BellHush();
        CHECKS.due("inDebt() without traders", m.inDebt(), 0);
        m.list(5, 20, 0);
        m.addTrader();
        m.addTrader();
        m.addTrader();
        m.pass(16);
        m.buy(0, 0, 1);
        m.pass(4);
        CHECKS.due("inDebt() of rich ones", m.inDebt(), 0);
        m.pass(4);
        m.buy(1, 0, 5);
        CHECKS.due("purse of exactly 0", m.purseOf(1), 0);
        CHECKS.due("inDebt() with a purse of 0", m.inDebt(), 0);
        m.sell(2, 0, 9);
        CHECKS.due("inDebt() ahead of the stroke", m.inDebt(), 0);
        m.pass(16);
        CHECKS.due("inDebt() behind the stroke", m.inDebt(), 1);
        m.pass(4);
        m.sell(0, 0, 9);
        m.pass(16);
        CHECKS.due("inDebt() with the first one", m.inDebt(), 2);
    }

    private static void refusals() {
        BellHush m = new BellHush();
        refusedFor(m, 0);
        m.list(1, 2, 0);
        refusedFor(m, 0);
        m.addTrader();
        m.addTrader();
        int[] bad = {-1, 2, 6, Integer.MIN_VALUE, Integer.MAX_VALUE};
        for (int i : bad) {
            refusedFor(m, i);
            CHECKS.refused("holds(" + i + ", 0)", m, INDEX, () -> m.holds(i, 0));
            CHECKS.refused("holds(0, " + i + ")", m, INDEX, () -> m.holds(0, i));
            CHECKS.refused("holds(" + i + ", " + i + ")", m, INDEX, () -> m.holds(i, i));
        }
        CHECKS.refused("holds(0, 1) of one tower", m, INDEX, () -> m.holds(0, 1));
        for (int trader = 2; trader < 6; trader++) {
            m.addTrader();
        }
        refusedFor(m, 6);
    }

    private static void refusedFor(BellHush m, int trader) {
        CHECKS.refused("purseOf(" + trader + ")", m, INDEX, () -> m.purseOf(trader));
        CHECKS.refused("worthOf(" + trader + ")", m, INDEX, () -> m.worthOf(trader));
        CHECKS.refused("shortsOf(" + trader + ")", m, INDEX, () -> m.shortsOf(trader));
    }

    /** Towers of loudness 9 that strike in 20, 40, .. */
    private static BellHush market(int towers, int traders) {
        BellHush m = new BellHush();
        for (int tower = 0; tower < towers; tower++) {
            m.list(9, 20, 0);
        }
        for (int trader = 0; trader < traders; trader++) {
            m.addTrader();
        }
        return m;
    }
}

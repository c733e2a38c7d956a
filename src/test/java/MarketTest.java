/** Promises 1 to 6. */
public final class MarketTest {
    private static final Class<IllegalArgumentException> ARGUMENT = IllegalArgumentException.class;
    private static final Class<IllegalStateException> STATE = IllegalStateException.class;
    private static final Class<IndexOutOfBoundsException> INDEX = IndexOutOfBoundsException.class;
    private static final Checks CHECKS = new Checks();

    public static void main(String[] args) {
        promise1NewObject();
        promise2List();
        promise2Refusals();
        promise3AddTrader();
        promise4Buy();
        promise4Refusals();
        promise5Sell();
        promise5Refusals();
        promise6Pass();
        promise6ClosesAllThatIsOpen();
        promise6Refusals();
        CHECKS.end("MarketTest");
    }

    private static void promise1NewObject() {
        BellHush m = new BellHush();
        CHECKS.due("second() of a new one", m.second(), 0);
        CHECKS.due("towers() of a new one", m.towers(), 0);
        CHECKS.due("traders() of a new one", m.traders(), 0);
        BellHush other = new BellHush();
        other.list(9, 20, 0);
        other.addTrader();
        other.pass(3);
        CHECKS.due("second() beside another one", m.second(), 0);
        CHECKS.due("towers() beside another one", m.towers(), 0);
        CHECKS.due("traders() beside another one", m.traders(), 0);
    }

    private static void promise2List() {
        BellHush m = new BellHush();
        CHECKS.due("list(1, 2, 0)", m.list(1, 2, 0), 0);
        CHECKS.due("list(9, 20, 19)", m.list(9, 20, 19), 1);
        CHECKS.due("list(9, 2, 1)", m.list(9, 2, 1), 2);
        CHECKS.due("towers() behind three", m.towers(), 3);
        CHECKS.due("beat 0 of 2 in second 0", m.secondsUntilStroke(0), 2);
        CHECKS.due("beat 19 of 20 in second 0", m.secondsUntilStroke(1), 19);
        CHECKS.due("beat 1 of 2 in second 0", m.secondsUntilStroke(2), 1);
        for (int tower = 3; tower < 8; tower++) {
            CHECKS.due("list of tower " + tower, m.list(5, 7, 3), tower);
        }
        CHECKS.due("towers() behind eight", m.towers(), 8);

        BellHush late = new BellHush();
        late.pass(23);
        late.list(4, 5, 3);
        CHECKS.due("silence of a tower listed in its beat", late.silenceOf(0), 0);
        CHECKS.due("strokes of a tower listed in its beat", late.strokesOf(0), 0);
        CHECKS.due("wait of a tower listed in its beat", late.secondsUntilStroke(0), 5);
        late.list(4, 5, 2);
        CHECKS.due("wait of a tower listed one behind its beat", late.secondsUntilStroke(1), 4);
        late.list(4, 5, 4);
        CHECKS.due("wait of a tower listed one ahead of its beat", late.secondsUntilStroke(2), 1);
    }

    private static void promise2Refusals() {
        BellHush m = new BellHush();
        int[][] bad = {
            {0, 2, 0}, {-1, 2, 0}, {10, 2, 0}, {Integer.MIN_VALUE, 2, 0}, {Integer.MAX_VALUE, 2, 0},
            {1, 1, 0}, {1, 0, 0}, {1, -1, 0}, {1, 21, 0}, {1, Integer.MIN_VALUE, 0}, {1, Integer.MAX_VALUE, 0},
            {1, 2, -1}, {1, 2, 2}, {1, 20, 20}, {1, 5, Integer.MIN_VALUE}, {1, 5, Integer.MAX_VALUE},
        };
        for (int[] a : bad) {
            CHECKS.refused("list(" + a[0] + ", " + a[1] + ", " + a[2] + ")", m, ARGUMENT,
                () -> m.list(a[0], a[1], a[2]));
        }
        for (int tower = 0; tower < 8; tower++) {
            m.list(1, 2, 0);
        }
        CHECKS.refused("list of a ninth", m, STATE, () -> m.list(1, 2, 0));
        CHECKS.due("towers() behind a refused ninth", m.towers(), 8);
        for (int[] a : bad) {
            CHECKS.refused("list of a ninth with wrong arguments", m, ARGUMENT, () -> m.list(a[0], a[1], a[2]));
        }
    }

    private static void promise3AddTrader() {
        BellHush m = new BellHush();
        for (int trader = 0; trader < 6; trader++) {
            CHECKS.due("addTrader()", m.addTrader(), trader);
            CHECKS.due("purse of a new trader", m.purseOf(trader), 100);
        }
        CHECKS.refused("addTrader() of a seventh", m, STATE, m::addTrader);
        CHECKS.due("traders() behind a refused seventh", m.traders(), 6);
        m.list(1, 2, 0);
        for (int trader = 0; trader < 6; trader++) {
            CHECKS.due("a new trader holds", m.holds(trader, 0), 0);
        }
    }

    private static void promise4Buy() {
        BellHush m = oneTower(5, 20, 2);
        CHECKS.due("buy(0, 0, 1)", m.buy(0, 0, 1), 10);
        CHECKS.due("purse behind it", m.purseOf(0), 90);
        CHECKS.due("buying adds no price", m.priceOf(0), 10);
        CHECKS.due("buy(0, 0, 8) up to 9", m.buy(0, 0, 8), 80);
        CHECKS.due("holds behind it", m.holds(0, 0), 9);
        CHECKS.due("purse behind it", m.purseOf(0), 10);
        CHECKS.due("the other trader's purse", m.purseOf(1), 100);
        CHECKS.due("the other trader's holds", m.holds(1, 0), 0);

        BellHush exact = oneTower(5, 20, 4);
        CHECKS.due("buy for the whole purse", exact.buy(0, 0, 5), 100);
        CHECKS.due("purse behind it", exact.purseOf(0), 0);

        BellHush cover = oneTower(5, 20, 4);
        CHECKS.due("sell(1, 0, 9)", cover.sell(1, 0, 9), 180);
        CHECKS.due("buy back at the price under 9 doves", cover.buy(1, 0, 9), 18);
        CHECKS.due("holds behind buying back", cover.holds(1, 0), 0);
        CHECKS.due("doves behind buying back", cover.dovesOn(0), 0);
        cover.sell(1, 0, 3);
        CHECKS.due("buy over from short to held, at 14 for each", cover.buy(1, 0, 5), 70);
        CHECKS.due("holds behind it", cover.holds(1, 0), 2);

        BellHush free = oneTower(5, 20, 0);
        CHECKS.due("buy for nothing", free.buy(0, 0, 9), 0);
        CHECKS.due("purse behind it", free.purseOf(0), 100);
    }

    private static void promise4Refusals() {
        BellHush m = oneTower(5, 20, 2);
        int[] bad = {-1, 2, Integer.MIN_VALUE, Integer.MAX_VALUE};
        for (int i : bad) {
            CHECKS.refused("buy of trader " + i, m, INDEX, () -> m.buy(i, 0, 1));
            CHECKS.refused("buy of tower " + i, m, INDEX, () -> m.buy(0, i, 1));
            CHECKS.refused("buy of trader and seconds wrong", m, INDEX, () -> m.buy(i, 0, 0));
            CHECKS.refused("buy of tower and seconds wrong", m, INDEX, () -> m.buy(0, i, 10));
        }
        CHECKS.refused("buy of tower 1 of 1", m, INDEX, () -> m.buy(0, 1, 1));
        int[] counts = {0, -1, 10, Integer.MIN_VALUE, Integer.MAX_VALUE};
        for (int n : counts) {
            CHECKS.refused("buy of " + n, m, ARGUMENT, () -> m.buy(0, 0, n));
        }
        m.buy(0, 0, 1);
        CHECKS.refused("buy up to 10", m, STATE, () -> m.buy(0, 0, 9));
        for (int n : counts) {
            CHECKS.refused("buy of a wrong number that would be refused", m, ARGUMENT, () -> m.buy(0, 0, n));
        }

        BellHush others = oneTower(5, 20, 0);
        others.list(5, 20, 0);
        others.buy(0, 0, 9);
        others.buy(1, 1, 9);
        CHECKS.due("9 held by another", others.buy(1, 0, 9), 0);
        CHECKS.due("9 held elsewhere", others.buy(0, 1, 9), 0);
        CHECKS.refused("a tenth of the second tower", others, STATE, () -> others.buy(1, 1, 1));

        BellHush poor = oneTower(1, 20, 17);
        CHECKS.refused("buy for 102 with 100", poor, STATE, () -> poor.buy(0, 0, 6));
        CHECKS.due("buy for 85 with 100", poor.buy(0, 0, 5), 85);

        BellHush debt = inDebt();
        CHECKS.due("price in the second of the stroke", debt.priceOf(0), 0);
        CHECKS.refused("buy for nothing in debt", debt, STATE, () -> debt.buy(0, 0, 1));
        CHECKS.due("buy for nothing without debt", debt.buy(1, 0, 9), 0);
    }

    private static void promise5Sell() {
        BellHush m = oneTower(5, 20, 2);
        CHECKS.due("sell(0, 0, 9) without any", m.sell(0, 0, 9), 90);
        CHECKS.due("purse behind it", m.purseOf(0), 190);
        CHECKS.due("holds behind it", m.holds(0, 0), -9);
        CHECKS.due("the other trader's purse", m.purseOf(1), 100);
        CHECKS.due("sell under 9 doves", m.sell(1, 0, 1), 0);
        CHECKS.due("doves behind it", m.dovesOn(0), 10);

        BellHush long9 = oneTower(5, 20, 1);
        long9.buy(0, 0, 9);
        CHECKS.due("sell some of what is held", long9.sell(0, 0, 4), 20);
        CHECKS.due("no doves for what is held", long9.dovesOn(0), 0);
        CHECKS.due("sell more than is held", long9.sell(0, 0, 9), 45);
        CHECKS.due("holds behind it", long9.holds(0, 0), -4);
        CHECKS.due("doves behind it", long9.dovesOn(0), 4);
        CHECKS.due("sell to exactly -9", long9.sell(0, 0, 5), 0);
        CHECKS.due("holds at the edge", long9.holds(0, 0), -9);

        BellHush debt = inDebt();
        debt.pass(1);
        CHECKS.due("sell in debt", debt.sell(0, 0, 2), 18);
    }

    private static void promise5Refusals() {
        BellHush m = oneTower(5, 20, 2);
        int[] bad = {-1, 2, Integer.MIN_VALUE, Integer.MAX_VALUE};
        for (int i : bad) {
            CHECKS.refused("sell of trader " + i, m, INDEX, () -> m.sell(i, 0, 1));
            CHECKS.refused("sell of tower " + i, m, INDEX, () -> m.sell(0, i, 1));
            CHECKS.refused("sell of trader and seconds wrong", m, INDEX, () -> m.sell(i, 0, 0));
            CHECKS.refused("sell of tower and seconds wrong", m, INDEX, () -> m.sell(0, i, 10));
        }
        CHECKS.refused("sell of tower 1 of 1", m, INDEX, () -> m.sell(0, 1, 1));
        m.sell(0, 0, 1);
        CHECKS.refused("sell down to -10", m, STATE, () -> m.sell(0, 0, 9));
        int[] counts = {0, -1, 10, Integer.MIN_VALUE, Integer.MAX_VALUE};
        for (int n : counts) {
            CHECKS.refused("sell of " + n, m, ARGUMENT, () -> m.sell(0, 0, n));
            CHECKS.refused("sell of " + n + " without any", m, ARGUMENT, () -> m.sell(1, 0, n));
        }
        BellHush others = oneTower(5, 20, 0);
        others.list(5, 20, 0);
        others.sell(0, 0, 9);
        others.sell(1, 1, 9);
        CHECKS.due("9 sold by another", others.sell(1, 0, 9), 0);
        CHECKS.due("9 sold elsewhere", others.sell(0, 1, 9), 0);
        CHECKS.refused("a tenth of the second tower", others, STATE, () -> others.sell(1, 1, 1));
    }

    private static void promise6Pass() {
        BellHush m = new BellHush();
        CHECKS.due("pass(60) without towers", m.pass(60), 0);
        CHECKS.due("second() behind it", m.second(), 60);
        m.list(1, 2, 0);
        m.list(1, 3, 1);
        m.list(1, 20, 19);
        CHECKS.due("pass(1) to 61", m.pass(1), 1);
        CHECKS.due("pass(1) to 62", m.pass(1), 1);
        CHECKS.due("pass(2) to 64: two at once", m.pass(2), 2);
        CHECKS.due("second() behind it", m.second(), 64);
        CHECKS.due("pass(60) to 124", m.pass(60), 30 + 20 + 3);
        CHECKS.due("second() behind it", m.second(), 124);
        CHECKS.due("silence of the slowest", m.silenceOf(2), 5);
    }

    private static void promise6ClosesAllThatIsOpen() {
        BellHush m = new BellHush();
        m.list(4, 5, 0);
        m.list(3, 7, 0);
        m.addTrader();
        m.addTrader();
        m.pass(2);
        m.buy(0, 0, 6);
        m.buy(0, 1, 2);
        m.sell(1, 0, 3);
        CHECKS.due("purse of the holder ahead", m.purseOf(0), 100 - 48 - 12);
        CHECKS.due("purse of the short one ahead", m.purseOf(1), 100 + 24);
        CHECKS.due("pass(2) ahead of the stroke", m.pass(2), 0);
        CHECKS.due("price ahead of the stroke", m.priceOf(0), 10);
        CHECKS.due("pass(1) to the stroke", m.pass(1), 1);
        CHECKS.due("purse of the holder, closed at 10", m.purseOf(0), 40 + 60);
        CHECKS.due("purse of the short one, closed at 10", m.purseOf(1), 124 - 30);
        CHECKS.due("holds of the holder", m.holds(0, 0), 0);
        CHECKS.due("holds of the short one", m.holds(1, 0), 0);
        CHECKS.due("what is held elsewhere stays", m.holds(0, 1), 2);
        CHECKS.due("silence behind the stroke", m.silenceOf(0), 0);
        CHECKS.due("silence of the other", m.silenceOf(1), 5);
        CHECKS.due("strokes behind it", m.strokesOf(0), 1);
    }

    private static void promise6Refusals() {
        BellHush m = oneTower(5, 20, 2);
        m.sell(0, 0, 1);
        int[] counts = {0, -1, 61, Integer.MIN_VALUE, Integer.MAX_VALUE};
        for (int n : counts) {
            CHECKS.refused("pass(" + n + ")", m, ARGUMENT, () -> m.pass(n));
        }
    }

    /** One tower that strikes in 20, 40, .. of a period of 20, two traders, in this second. */
    private static BellHush oneTower(int loudness, int period, int second) {
        BellHush m = new BellHush();
        m.list(loudness, period, 0);
        m.addTrader();
        m.addTrader();
        if (second > 0) {
            m.pass(second);
        }
        return m;
    }

    /** In the second 20, in which the only tower struck and left trader 0 with less than 0. */
    private static BellHush inDebt() {
        BellHush m = oneTower(9, 20, 0);
        m.sell(0, 0, 9);
        m.pass(20);
        CHECKS.due("purse closed at 153 each", m.purseOf(0), 100 - 9 * 153);
        return m;
    }
}

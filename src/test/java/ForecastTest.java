/** Promises 24 to 31. */
public final class ForecastTest {
    private static final Class<IllegalArgumentException> ARGUMENT = IllegalArgumentException.class;
    private static final Class<IndexOutOfBoundsException> INDEX = IndexOutOfBoundsException.class;
    private static final Checks CHECKS = new Checks();

    public static void main(String[] args) {
        promise24ClosingPrice();
        promise25PriceIn();
        promise26WorthIn();
        promise27BestToBuy();
        promise28BestToSell();
        promise28Ties();
        promise29SecondsUntilDebt();
        promise29Horizon();
        promise30MeanPrice();
        promise31Digest();
        refusals();
        nothingIsChanged();
        CHECKS.end("ForecastTest");
    }

    private static void promise24ClosingPrice() {
        BellHush m = new BellHush();
        m.list(3, 10, 0);
        m.addTrader();
        CHECKS.due("closing price at 9 of silence", m.closingPrice(0), 27);
        m.pass(4);
        CHECKS.due("closing price does not move", m.closingPrice(0), 27);
        m.sell(0, 0, 9);
        CHECKS.due("closing price under 9 doves", m.closingPrice(0), 9);
        m.pass(5);
        CHECKS.due("closing price a second ahead", m.closingPrice(0), m.priceOf(0));
        m.pass(1);
        CHECKS.due("closing price behind the stroke", m.closingPrice(0), 27);
        m.list(1, 10, 1);
        CHECKS.due("closing price of one that strikes next", m.closingPrice(1), 0);
        m.list(1, 10, 9);
        m.sell(0, 2, 9);
        CHECKS.due("closing price not less than 0", m.closingPrice(2), 0);
    }

    private static void promise25PriceIn() {
        BellHush m = new BellHush();
        m.list(3, 10, 0);
        m.addTrader();
        m.pass(4);
        m.sell(0, 0, 5);
        CHECKS.due("price in 1", m.priceIn(0, 1), 5);
        CHECKS.due("price in 5, ahead of the stroke", m.priceIn(0, 5), 17);
        CHECKS.due("price in 6, in the stroke", m.priceIn(0, 6), 0);
        CHECKS.due("price in 7, without doves", m.priceIn(0, 7), 3);
        CHECKS.due("price in 15", m.priceIn(0, 15), 27);
        CHECKS.due("price in 16, in the next stroke", m.priceIn(0, 16), 0);
        CHECKS.due("price in 60", m.priceIn(0, 60), 12);
        m.sell(0, 0, 4);
        CHECKS.due("price in 1, not less than 0", m.priceIn(0, 1), 0);
        m.list(7, 4, 1);
        CHECKS.due("price of the second in 1, in the stroke", m.priceIn(1, 1), 0);
        CHECKS.due("price of the second in 4", m.priceIn(1, 4), 21);
        CHECKS.due("price of the second in 5, in the next stroke", m.priceIn(1, 5), 0);
        CHECKS.due("price of the second in 60", m.priceIn(1, 60), 21);
    }

    private static void promise26WorthIn() {
        BellHush m = new BellHush();
        m.list(3, 10, 0);
        m.list(2, 4, 0);
        m.addTrader();
        m.addTrader();
        m.pass(2);
        m.buy(0, 0, 4);
        m.sell(0, 1, 3);
        CHECKS.due("purse ahead", m.purseOf(0), 100 - 24 + 12);
        CHECKS.due("worth in 1: 4 at 9, less 3 at 0", m.worthIn(0, 1), 88 + 36);
        CHECKS.due("worth in 2: one closed at 0", m.worthIn(0, 2), 88 + 48);
        CHECKS.due("worth in 7: 4 at 27", m.worthIn(0, 7), 88 + 108);
        CHECKS.due("worth in 8: closed at 27", m.worthIn(0, 8), 88 + 108);
        CHECKS.due("worth in 60", m.worthIn(0, 60), 88 + 108);
        CHECKS.due("worth of one without any", m.worthIn(1, 60), 100);
        m.sell(1, 0, 9);
        CHECKS.due("worth in 1 under another's doves", m.worthIn(0, 1), 88);
        CHECKS.due("worth in 8 under another's doves", m.worthIn(0, 8), 88 + 36);
        CHECKS.due("worth in 60 of the short one", m.worthIn(1, 60), 154 - 81);
    }

    private static void promise27BestToBuy() {
        BellHush m = new BellHush();
        CHECKS.due("bestToBuy() without towers", m.bestToBuy(), -1);
        m.list(9, 20, 1);
        CHECKS.due("bestToBuy() without a rise", m.bestToBuy(), -1);
        m.list(1, 20, 2);
        CHECKS.due("bestToBuy() with a rise of 1", m.bestToBuy(), 1);
        m.list(2, 20, 5);
        m.list(4, 20, 3);
        CHECKS.due("bestToBuy() of two the same", m.bestToBuy(), 2);
        m.addTrader();
        m.sell(0, 3, 1);
        CHECKS.due("bestToBuy(): a dove takes from the rise", m.bestToBuy(), 2);
        m.pass(1);
        CHECKS.due("bestToBuy() behind the first stroke", m.bestToBuy(), 0);
        m.sell(0, 0, 9);
        for (int trader = 1; trader < 6; trader++) {
            m.addTrader();
            m.sell(trader, 0, 9);
        }
        CHECKS.due("closing price under 54 doves", m.closingPrice(0), 63);
        CHECKS.due("bestToBuy() still the rise from 0", m.bestToBuy(), 0);

        BellHush rises = new BellHush();
        rises.list(9, 20, 10);
        rises.pass(8);
        rises.list(5, 20, 12);
        CHECKS.due("closing dear after a rise of 9", rises.closingPrice(0), 81);
        CHECKS.due("closing cheap after a rise of 15", rises.closingPrice(1), 15);
        CHECKS.due("bestToBuy() by the rise, not by the closing price", rises.bestToBuy(), 1);
    }

    private static void promise28BestToSell() {
        BellHush m = new BellHush();
        m.list(9, 20, 0);
        m.addTrader();
        m.addTrader();
        m.pass(19);
        CHECKS.due("sell dear and close under one's doves", m.bestToSell(0, 0), 9);
        m.sell(0, 0, 4);
        CHECKS.due("no more than down to -9", m.bestToSell(0, 0), 5);
        m.sell(0, 0, 5);
        CHECKS.due("none at -9", m.bestToSell(0, 0), 0);
        m.sell(1, 0, 8);
        CHECKS.due("one more at -8", m.bestToSell(1, 0), 1);
        CHECKS.due("the other one still none", m.bestToSell(0, 0), 0);
        m.list(9, 5, 1);
        CHECKS.due("none of the second, where the price rises", m.bestToSell(0, 1), 0);

        // Who is short already gains by each more: its own doves press what it has to be closed at.
        BellHush shorted = new BellHush();
        shorted.list(1, 20, 0);
        shorted.list(9, 20, 0);
        shorted.addTrader();
        shorted.addTrader();
        shorted.pass(18);
        shorted.sell(1, 1, 3);
        CHECKS.due("short 3 at 156, 165 to close", shorted.bestToSell(1, 1), 6);
        CHECKS.due("the other one under its doves", shorted.bestToSell(0, 1), 9);
        CHECKS.due("tower of a small rise", shorted.bestToSell(0, 0), 9);
        BellHush steep = new BellHush();
        steep.list(5, 10, 0);
        steep.addTrader();
        steep.pass(5);
        steep.sell(0, 0, 3);
        CHECKS.due("short 3, the rise too steep for 6 more doves", steep.bestToSell(0, 0), 0);
        BellHush rising = new BellHush();
        rising.list(9, 20, 0);
        rising.addTrader();
        CHECKS.due("none where the price rises", rising.bestToSell(0, 0), 0);
        rising.buy(0, 0, 9);
        CHECKS.due("none of 9 held where the price rises", rising.bestToSell(0, 0), 0);
    }

    private static void promise28Ties() {
        BellHush m = new BellHush();
        m.list(9, 20, 0);
        m.addTrader();
        m.addTrader();
        m.buy(0, 0, 9);
        m.pass(19);
        CHECKS.due("0 to 9 held come to the same", m.bestToSell(0, 0), 0);
        CHECKS.due("the other one, without any, gains", m.bestToSell(1, 0), 9);

        // Selling k at price p, to be closed at c - 2k, comes to k * (p - c + 2k) more: first less, then more.
        BellHush rising = new BellHush();
        rising.list(1, 20, 0);
        rising.addTrader();
        rising.pass(1);
        CHECKS.due("9 * (1 - 19 + 18) is no more than none", rising.bestToSell(0, 0), 0);
        rising.pass(1);
        CHECKS.due("9 * (2 - 19 + 18) is more than none", rising.bestToSell(0, 0), 9);

        BellHush free = new BellHush();
        free.list(1, 2, 0);
        free.addTrader();
        free.addTrader();
        free.sell(1, 0, 9);
        CHECKS.due("any number for nothing, closed for nothing", free.bestToSell(0, 0), 0);

        BellHush flat = new BellHush();
        flat.list(5, 3, 0);
        flat.addTrader();
        flat.pass(2);
        CHECKS.due("from the fifth on closed for nothing", flat.bestToSell(0, 0), 9);

        // The stroke is in the next second: what is held comes to the same sold or closed, what is short gains.
        BellHush pressed = new BellHush();
        pressed.list(9, 4, 0);
        pressed.addTrader();
        pressed.addTrader();
        pressed.buy(0, 0, 4);
        pressed.pass(3);
        pressed.sell(1, 0, 9);
        CHECKS.due("none to 4 come to the same, 9 to the most", pressed.bestToSell(0, 0), 9);
    }

    private static void promise29SecondsUntilDebt() {
        BellHush m = new BellHush();
        m.list(9, 20, 0);
        m.list(5, 10, 3);
        m.addTrader();
        m.addTrader();
        m.addTrader();
        CHECKS.due("no debt without any", m.secondsUntilDebt(0), -1);
        m.buy(0, 0, 9);
        CHECKS.due("no debt of a holder", m.secondsUntilDebt(0), -1);
        m.sell(1, 0, 9);
        CHECKS.due("debt at the stroke in 20", m.secondsUntilDebt(1), 20);
        m.pass(3);
        CHECKS.due("debt at the stroke in 17", m.secondsUntilDebt(1), 17);
        m.sell(2, 1, 9);
        CHECKS.due("debt at the stroke in 10: 100 less 9 at 27", m.secondsUntilDebt(2), 10);
        m.pass(10);
        CHECKS.due("debt now", m.secondsUntilDebt(2), 0);
        CHECKS.due("debt at the stroke in 7", m.secondsUntilDebt(1), 7);
        m.pass(7);
        CHECKS.due("debt now, too", m.secondsUntilDebt(1), 0);
    }

    private static void promise29Horizon() {
        // The purse comes to exactly 0 by a stroke, which is no debt.
        BellHush exact = new BellHush();
        exact.list(6, 6, 0);
        exact.addTrader();
        exact.sell(0, 0, 5);
        CHECKS.due("closing price", exact.closingPrice(0), 20);
        CHECKS.due("no debt at a purse of 0", exact.secondsUntilDebt(0), -1);
        exact.sell(0, 0, 1);
        CHECKS.due("debt at 100 less 6 at 18", exact.secondsUntilDebt(0), 6);

        // Two strokes in one second: the purse counts behind both of them.
        BellHush both = new BellHush();
        both.list(9, 10, 0);
        both.list(9, 10, 0);
        both.addTrader();
        both.sell(0, 0, 9);
        both.buy(0, 1, 9);
        CHECKS.due("a loss made good in the same second", both.secondsUntilDebt(0), -1);
        both.addTrader();
        both.buy(1, 0, 9);
        both.sell(1, 1, 9);
        CHECKS.due("and the other way round", both.secondsUntilDebt(1), -1);

        // Neither stroke alone, but both of one second take more than the purse.
        BellHush added = new BellHush();
        added.list(9, 10, 0);
        added.list(8, 10, 0);
        added.addTrader();
        added.sell(0, 0, 1);
        added.sell(0, 1, 1);
        CHECKS.due("79 and 70 of 100", added.secondsUntilDebt(0), 10);

        BellHush cheap = new BellHush();
        cheap.list(9, 10, 0);
        cheap.list(1, 10, 0);
        cheap.addTrader();
        cheap.sell(0, 1, 2);
        CHECKS.due("no debt by the cheap one, the dear one in the same second", cheap.secondsUntilDebt(0), -1);

        // The loss comes first, the gain later: debt in between counts.
        BellHush between = new BellHush();
        between.list(9, 10, 9);
        between.list(9, 11, 0);
        between.addTrader();
        between.sell(0, 0, 9);
        between.buy(0, 1, 9);
        CHECKS.due("a loss ahead of the gain", between.secondsUntilDebt(0), 9);

        // The gain comes first and covers the loss.
        BellHush covered = new BellHush();
        covered.list(9, 10, 0);
        covered.list(9, 10, 9);
        covered.addTrader();
        covered.sell(0, 0, 5);
        covered.buy(0, 1, 9);
        CHECKS.due("a gain ahead of the loss", covered.secondsUntilDebt(0), -1);
    }

    private static void promise30MeanPrice() {
        BellHush m = new BellHush();
        CHECKS.due("meanPrice() without towers", m.meanPrice(), 0.0);
        BellHush one = new BellHush();
        one.list(7, 20, 0);
        one.pass(3);
        CHECKS.due("meanPrice() of one", one.meanPrice(), 21.0);
        m.list(1, 20, 0);
        m.list(3, 20, 0);
        CHECKS.due("meanPrice() of prices of 0", m.meanPrice(), 0.0);
        m.pass(1);
        CHECKS.due("meanPrice() of 1 and 3", m.meanPrice(), 2.0);
        m.list(9, 20, 0);
        CHECKS.due("meanPrice() of 1, 3 and 0", m.meanPrice(), 4.0 / 3.0);
        m.addTrader();
        m.sell(0, 1, 1);
        CHECKS.due("meanPrice() of 1, 1 and 0", m.meanPrice(), 2.0 / 3.0);
    }

    private static void promise31Digest() {
        BellHush m = new BellHush();
        CHECKS.due("digest() of a new one", m.digest(),
            checksum(0, 0, 0, -1, -1, -1, 0, -1));
        m.pass(5);
        m.list(4, 6, 1);
        CHECKS.due("digest() with one tower", m.digest(),
            checksum(5, 1, 0, 0, 0, -1, 0, 0, 0, 0, 0, 2, 0, 0, 4));
        m.list(7, 9, 1);
        m.addTrader();
        m.addTrader();
        m.pass(4);
        m.sell(0, 1, 5);
        m.buy(1, 0, 3);
        CHECKS.due("digest() with two of each", m.digest(),
            checksum(9, 2, 2, 1, 1, 0, 0, 0,
                2, 0, 8, 4, 1, 3, 20,
                4, 5, 18, 1, 0, -5, 18,
                240, 150, 1, 0, -5,
                76, 100, 0, 3, 0));
    }

    private static long checksum(int... numbers) {
        long d = 2081;
        for (int x : numbers) {
            d = d * 31 + x;
        }
        return d;
    }

    private static void refusals() {
        BellHush m = new BellHush();
        refusedTower(m, 0);
        refusedTrader(m, 0);
        CHECKS.refused("bestToSell(0, 0) of a new one", m, INDEX, () -> m.bestToSell(0, 0));
        m.list(9, 20, 0);
        m.addTrader();
        m.addTrader();
        int[] bad = {-1, 2, 6, 8, Integer.MIN_VALUE, Integer.MAX_VALUE};
        for (int i : bad) {
            refusedTower(m, i);
            refusedTrader(m, i);
            CHECKS.refused("bestToSell(" + i + ", 0)", m, INDEX, () -> m.bestToSell(i, 0));
            CHECKS.refused("bestToSell(0, " + i + ")", m, INDEX, () -> m.bestToSell(0, i));
        }
        CHECKS.refused("bestToSell(0, 1) of one tower", m, INDEX, () -> m.bestToSell(0, 1));
        int[] counts = {0, -1, 61, Integer.MIN_VALUE, Integer.MAX_VALUE};
        for (int n : counts) {
            CHECKS.refused("priceIn(0, " + n + ")", m, ARGUMENT, () -> m.priceIn(0, n));
            CHECKS.refused("worthIn(0, " + n + ")", m, ARGUMENT, () -> m.worthIn(0, n));
        }
    }

    private static void refusedTower(BellHush m, int tower) {
        CHECKS.refused("closingPrice(" + tower + ")", m, INDEX, () -> m.closingPrice(tower));
        CHECKS.refused("priceIn(" + tower + ", 1)", m, INDEX, () -> m.priceIn(tower, 1));
        CHECKS.refused("priceIn(" + tower + ", 0)", m, INDEX, () -> m.priceIn(tower, 0));
    }

    private static void refusedTrader(BellHush m, int trader) {
        CHECKS.refused("worthIn(" + trader + ", 1)", m, INDEX, () -> m.worthIn(trader, 1));
        CHECKS.refused("worthIn(" + trader + ", 61)", m, INDEX, () -> m.worthIn(trader, 61));
        CHECKS.refused("secondsUntilDebt(" + trader + ")", m, INDEX, () -> m.secondsUntilDebt(trader));
    }

    private static void nothingIsChanged() {
        BellHush m = new BellHush();
        m.list(4, 6, 1);
        m.list(7, 9, 1);
        m.addTrader();
        m.pass(4);
        m.sell(0, 1, 5);
        m.buy(0, 0, 3);
        long before = m.digest();
        CHECKS.due("digest() asked again", m.digest(), before);
        m.closingPrice(1);
        m.priceIn(1, 60);
        m.worthIn(0, 60);
        m.bestToBuy();
        m.bestToSell(0, 0);
        m.secondsUntilDebt(0);
        m.meanPrice();
        CHECKS.due("digest() behind all that only asks", m.digest(), before);
    }
}

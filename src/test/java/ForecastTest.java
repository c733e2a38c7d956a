import java.math.BigInteger;
import java.util.ArrayList;
import java.util.List;

/** Promises 24 to 31: what would be. */
public final class ForecastTest {
    private static final int LEAST = Integer.MIN_VALUE;
    private static final int MOST = Integer.MAX_VALUE;
    private static final String TOWER = "Throws IndexOutOfBoundsException if there is no such tower";
    private static final String TRADER = "Throws IndexOutOfBoundsException if there is no such trader";
    private static final String SECONDS = "Throws IllegalArgumentException if seconds is not 1 to 60";
    private static final String DIGEST = "for each of the following numbers x, d becomes d * 31 + x,";
    private static final Checks CHECKS = new Checks();
    private static final Edges EDGES = new Edges(CHECKS);

    public static void main(String[] args) {
        CHECKS.run(ForecastTest.class);
    }

    // ---- Promise 24: closingPrice

    @Holds(at = "Promise 24", says = "Returns the price at which all will be closed at its next stroke,")
    static void closingPriceStaysAllThePeriod() {
        BellHush m = new Script().list(9, 20, 0).make();
        for (int second = 0; second <= 40; second++) {
            CHECKS.due("in " + second, m.closingPrice(0), 171);
            m.pass(1);
        }
    }

    @Holds(at = "Promise 24", says = "Returns the price at which all will be closed at its next stroke,")
    static void closingPriceIsWhatPursesAreClosedAt() {
        for (int doves = 0; doves <= 54; doves++) {
            Script script = new Script().list(9, 20, 13).traders(6).pass(1);
            for (int sold = 0; sold < doves; sold++) {
                script.sell(sold / 9, 0, 1);
            }
            int due = 108 - 2 * doves;
            BellHush m = script.make();
            CHECKS.due("for the stroke in 13, under " + doves, m.closingPrice(0), due);
            int purse = m.purseOf(0);
            int held = m.holds(0, 0);
            m.pass(12);
            CHECKS.due("what the purse has more behind it", m.purseOf(0) - purse, due * held);
        }
    }

    @Holds(at = "Promise 24", says = "Returns the price at which all will be closed at its next stroke,")
    static void closingPriceAtEachWait() {
        for (int period = 2; period <= 20; period++) {
            for (int beat = 0; beat < period; beat++) {
                BellHush m = new BellHush();
                m.pass(37);
                m.list(9, period, beat);
                int wait = m.secondsUntilStroke(0);
                CHECKS.due("as listed, strikes in " + wait, m.closingPrice(0), 9 * (wait - 1));
                m.pass(wait);
                CHECKS.due("in the stroke, for the next one", m.closingPrice(0), 9 * (period - 1));
            }
        }
    }

    @Holds(at = "Promise 24", says = "Returns the price at which all will be closed at its next stroke,")
    static void closingPriceASecondAheadOfTheStrokeIsThePriceOfNow() {
        BellHush m = new Script().list(3, 10, 0).traders(1).pass(9).sell(0, 0, 4).make();
        CHECKS.due("price", m.priceOf(0), 19);
        CHECKS.due("closing price", m.closingPrice(0), 19);
        m.list(3, 10, 0);
        CHECKS.due("closing price of one listed a second ahead of its stroke", m.closingPrice(1), 0);
    }

    @Holds(at = "Promise 24", says = "Returns the price at which all will be closed at its next stroke,")
    static void closingPriceUnderDovesIsAtLeast0() {
        BellHush m = new Script().list(3, 10, 0).traders(2).pass(4).sell(0, 0, 9).make();
        CHECKS.due("27 less 18", m.closingPrice(0), 9);
        m.sell(1, 0, 4);
        CHECKS.due("27 less 26", m.closingPrice(0), 1);
        m.sell(1, 0, 1);
        CHECKS.due("27 less 28", m.closingPrice(0), 0);
        m.sell(1, 0, 4);
        CHECKS.due("27 less 36", m.closingPrice(0), 0);
        m.pass(6);
        CHECKS.due("behind the stroke, without doves", m.closingPrice(0), 27);
    }

    @Holds(at = "Promise 24", says = "if nothing else is done")
    static void closingPriceIsOtherWhenMoreIsDone() {
        BellHush m = new Script().list(3, 10, 0).traders(2).pass(4).make();
        CHECKS.due("at first", m.closingPrice(0), 27);
        m.sell(1, 0, 3);
        CHECKS.due("when 3 are sold", m.closingPrice(0), 21);
        m.buy(1, 0, 3);
        CHECKS.due("when they are bought back", m.closingPrice(0), 27);
        m.buy(1, 0, 3);
        CHECKS.due("when 3 more are bought", m.closingPrice(0), 27);
    }

    @Holds(at = "Promise 24", says = "(nothing is changed).")
    static void closingPriceChangesNothing() {
        CHECKS.changesNothing("closingPrice(0)", busy(), m -> m.closingPrice(0));
        CHECKS.changesNothing("closingPrice(1)", busy(), m -> m.closingPrice(1));
    }

    @Holds(at = "Promise 24", says = TOWER)
    static void closingPriceOfNoSuchTower() {
        EDGES.noSuchTower("closingPrice", (m, tower) -> m.closingPrice(tower));
    }

    // ---- Promise 25: priceIn

    @Holds(at = "Promise 25", says = "Returns its price behind them,")
    static void priceInAroundAStroke() {
        BellHush m = new Script().list(3, 10, 0).traders(1).pass(4).sell(0, 0, 5).make();
        CHECKS.due("in 1", m.priceIn(0, 1), 5);
        CHECKS.due("in 5, the last ahead of the stroke", m.priceIn(0, 5), 17);
        CHECKS.due("in 6, in the stroke", m.priceIn(0, 6), 0);
        CHECKS.due("in 7, the first behind it, without doves", m.priceIn(0, 7), 3);
        CHECKS.due("in 15, the last ahead of the second stroke", m.priceIn(0, 15), 27);
        CHECKS.due("in 16, in the second stroke", m.priceIn(0, 16), 0);
        CHECKS.due("in 60, behind the sixth stroke", m.priceIn(0, 60), 12);
        m.sell(0, 0, 4);
        CHECKS.due("in 1, at least 0", m.priceIn(0, 1), 0);
    }

    @Holds(at = "Promise 25", says = "Returns its price behind them,")
    static void priceInFromASecondOfAStroke() {
        BellHush m = new Script().list(7, 4, 0).pass(4).make();
        CHECKS.due("in 1", m.priceIn(0, 1), 7);
        CHECKS.due("in 3", m.priceIn(0, 3), 21);
        CHECKS.due("in 4, a whole period", m.priceIn(0, 4), 0);
        CHECKS.due("in 5", m.priceIn(0, 5), 7);
        CHECKS.due("in 60, 15 periods", m.priceIn(0, 60), 0);
    }

    @Holds(at = "Promise 25", says = "Returns its price behind them,")
    static void priceInIsThePriceBehindThemForEachPeriod() {
        for (int period = 2; period <= 20; period++) {
            Script script = new Script().pass(5).list(9, period, period / 2).traders(1).pass(1).sell(0, 0, 1);
            BellHush asked = script.make();
            for (int seconds = 1; seconds <= 60; seconds++) {
                BellHush gone = script.make();
                gone.pass(seconds);
                CHECKS.due("period " + period + " in " + seconds, asked.priceIn(0, seconds), gone.priceOf(0));
            }
        }
    }

    @Holds(at = "Promise 25", says = "if nothing else is done")
    static void priceInIsOtherWhenMoreIsDone() {
        BellHush m = new Script().list(3, 10, 0).traders(1).pass(4).make();
        CHECKS.due("at first", m.priceIn(0, 5), 27);
        m.sell(0, 0, 5);
        CHECKS.due("when 5 are sold", m.priceIn(0, 5), 17);
        CHECKS.due("when 5 are sold, behind the stroke", m.priceIn(0, 7), 3);
        m.buy(0, 0, 5);
        CHECKS.due("when they are bought back", m.priceIn(0, 5), 27);
    }

    @Holds(at = "Promise 25", says = "(nothing is changed).")
    static void priceInChangesNothing() {
        CHECKS.changesNothing("priceIn(0, 1)", busy(), m -> m.priceIn(0, 1));
        CHECKS.changesNothing("priceIn(1, 60)", busy(), m -> m.priceIn(1, 60));
    }

    @Holds(at = "Promise 25", says = TOWER)
    static void priceInOfNoSuchTower() {
        EDGES.noSuchTower("priceIn, 1,", (m, tower) -> m.priceIn(tower, 1));
        EDGES.noSuchTower("priceIn, 60,", (m, tower) -> m.priceIn(tower, 60));
    }

    @Holds(at = "Promise 25", says = TOWER)
    static void priceInOfNoSuchTowerAndWrongSeconds() {
        CHECKS.refused("priceIn(1, 0) of one", new Script().list(1, 2, 0), Checks.INDEX, m -> m.priceIn(1, 0));
        CHECKS.refused("priceIn(-1, 61) of one", new Script().list(1, 2, 0), Checks.INDEX, m -> m.priceIn(-1, 61));
        CHECKS.refused("priceIn(0, 0) of none", new Script(), Checks.INDEX, m -> m.priceIn(0, 0));
    }

    @Holds(at = "Promise 25", says = SECONDS)
    static void priceIn0IsTooSoon() {
        CHECKS.refused("priceIn(0, 0)", busy(), Checks.ARGUMENT, m -> m.priceIn(0, 0));
        CHECKS.refused("priceIn(0, -1)", busy(), Checks.ARGUMENT, m -> m.priceIn(0, -1));
        CHECKS.refused("priceIn(0, least)", busy(), Checks.ARGUMENT, m -> m.priceIn(0, LEAST));
    }

    @Holds(at = "Promise 25", says = SECONDS)
    static void priceIn1IsTheSoonest() {
        CHECKS.due("priceIn(0, 1)", new Script().list(9, 20, 0).make().priceIn(0, 1), 9);
        CHECKS.due("priceIn(0, 1) in the stroke", new Script().list(9, 20, 0).pass(19).make().priceIn(0, 1), 0);
    }

    @Holds(at = "Promise 25", says = SECONDS)
    static void priceIn60IsTheLatest() {
        CHECKS.due("priceIn(0, 60) of beat 0", new Script().list(9, 20, 0).make().priceIn(0, 60), 0);
        CHECKS.due("priceIn(0, 60) of beat 1", new Script().list(9, 20, 1).make().priceIn(0, 60), 171);
        CHECKS.due("priceIn(0, 60) of period 2", new Script().list(9, 2, 1).make().priceIn(0, 60), 9);
    }

    @Holds(at = "Promise 25", says = SECONDS)
    static void priceIn61IsTooLate() {
        CHECKS.refused("priceIn(0, 61)", busy(), Checks.ARGUMENT, m -> m.priceIn(0, 61));
        CHECKS.refused("priceIn(0, most)", busy(), Checks.ARGUMENT, m -> m.priceIn(0, MOST));
    }

    // ---- Promise 26: worthIn

    @Holds(at = "Promise 26", says = "Returns the worth behind them,")
    static void worthInAroundStrokes() {
        BellHush m = new Script().list(3, 10, 0).list(2, 4, 0).traders(2).pass(2).buy(0, 0, 4).sell(0, 1, 3).make();
        CHECKS.due("purse ahead", m.purseOf(0), 100 - 24 + 12);
        CHECKS.due("in 1: 4 at 9, less 3 at 0", m.worthIn(0, 1), 88 + 36);
        CHECKS.due("in 2, the stroke of the second: closed at 0", m.worthIn(0, 2), 88 + 48);
        CHECKS.due("in 7, the last ahead of the stroke: 4 at 27", m.worthIn(0, 7), 88 + 108);
        CHECKS.due("in 8, the stroke: closed at 27", m.worthIn(0, 8), 88 + 108);
        CHECKS.due("in 9, behind the stroke", m.worthIn(0, 9), 88 + 108);
        CHECKS.due("in 60, behind many", m.worthIn(0, 60), 88 + 108);
        m.sell(1, 0, 9);
        CHECKS.due("in 1 under another's doves", m.worthIn(0, 1), 88);
        CHECKS.due("in 8 under another's doves", m.worthIn(0, 8), 88 + 36);
        CHECKS.due("in 60 of the short one", m.worthIn(1, 60), 154 - 81);
    }

    @Holds(at = "Promise 26", says = "Returns the worth behind them,")
    static void worthInOfOneWithoutAny() {
        CHECKS.due("without towers", new Script().traders(1).make().worthIn(0, 60), 100);
        CHECKS.due("without trades", new Script().towers(8, 9, 2, 0).traders(6).make().worthIn(5, 60), 100);
    }

    @Holds(at = "Promise 26", says = "Returns the worth behind them,")
    static void worthInIsTheWorthBehindThem() {
        Script script = new Script().list(9, 20, 7).list(4, 6, 5).list(7, 3, 0).traders(3)
            .sell(0, 0, 9).buy(1, 1, 9).sell(2, 2, 4).pass(1).buy(2, 0, 3).sell(1, 1, 2).sell(0, 1, 3);
        BellHush asked = script.make();
        for (int seconds = 1; seconds <= 60; seconds++) {
            BellHush gone = script.make();
            gone.pass(seconds);
            for (int trader = 0; trader < 3; trader++) {
                CHECKS.due("of " + trader + " in " + seconds, asked.worthIn(trader, seconds), gone.worthOf(trader));
            }
        }
    }

    @Holds(at = "Promise 26", says = "Returns the worth behind them,")
    static void worthInOfAFullMarket() {
        Script script = new Script().towers(8, 9, 20, 0).traders(6);
        for (int tower = 0; tower < 8; tower++) {
            script.buy(0, tower, 9).sell(5, tower, 9);
        }
        BellHush m = script.make();
        CHECKS.due("9 of each of 8 at 153", m.worthIn(0, 19), 100 + 72 * 153);
        CHECKS.due("-9 of each of 8 at 153", m.worthIn(5, 19), 100 - 72 * 153);
        CHECKS.due("closed", m.worthIn(0, 60), 100 + 72 * 153);
        CHECKS.due("closed with less", m.worthIn(5, 60), 100 - 72 * 153);
    }

    @Holds(at = "Promise 26", says = "if nothing else is done")
    static void worthInIsOtherWhenMoreIsDone() {
        BellHush m = new Script().list(3, 10, 0).traders(2).buy(0, 0, 4).make();
        CHECKS.due("at first", m.worthIn(0, 10), 100 + 108);
        m.sell(1, 0, 3);
        CHECKS.due("when another sells 3", m.worthIn(0, 10), 100 + 84);
        m.sell(0, 0, 4);
        CHECKS.due("when all are sold at 0", m.worthIn(0, 10), 100);
    }

    @Holds(at = "Promise 26", says = "(nothing is changed).")
    static void worthInChangesNothing() {
        CHECKS.changesNothing("worthIn(0, 1)", busy(), m -> m.worthIn(0, 1));
        CHECKS.changesNothing("worthIn(1, 60)", busy(), m -> m.worthIn(1, 60));
    }

    @Holds(at = "Promise 26", says = TRADER)
    static void worthInOfNoSuchTrader() {
        EDGES.noSuchTrader("worthIn, 1,", (m, trader) -> m.worthIn(trader, 1));
        EDGES.noSuchTrader("worthIn, 60,", (m, trader) -> m.worthIn(trader, 60));
    }

    @Holds(at = "Promise 26", says = TRADER)
    static void worthInOfNoSuchTraderAndWrongSeconds() {
        CHECKS.refused("worthIn(1, 0) of one", new Script().traders(1), Checks.INDEX, m -> m.worthIn(1, 0));
        CHECKS.refused("worthIn(-1, 61) of one", new Script().traders(1), Checks.INDEX, m -> m.worthIn(-1, 61));
        CHECKS.refused("worthIn(0, 0) of none", new Script(), Checks.INDEX, m -> m.worthIn(0, 0));
    }

    @Holds(at = "Promise 26", says = SECONDS)
    static void worthIn0IsTooSoon() {
        CHECKS.refused("worthIn(0, 0)", busy(), Checks.ARGUMENT, m -> m.worthIn(0, 0));
        CHECKS.refused("worthIn(0, -1)", busy(), Checks.ARGUMENT, m -> m.worthIn(0, -1));
        CHECKS.refused("worthIn(0, least)", busy(), Checks.ARGUMENT, m -> m.worthIn(0, LEAST));
    }

    @Holds(at = "Promise 26", says = SECONDS)
    static void worthIn1IsTheSoonest() {
        Script script = new Script().list(9, 20, 0).traders(1).buy(0, 0, 9);
        CHECKS.due("worthIn(0, 1)", script.make().worthIn(0, 1), 181);
        CHECKS.due("worthIn(0, 1), the stroke", script.pass(19).make().worthIn(0, 1), 100 + 9 * 171);
    }

    @Holds(at = "Promise 26", says = SECONDS)
    static void worthIn60IsTheLatest() {
        Script script = new Script().list(9, 20, 0).traders(1).buy(0, 0, 9);
        CHECKS.due("worthIn(0, 60)", script.make().worthIn(0, 60), 100 + 9 * 171);
    }

    @Holds(at = "Promise 26", says = SECONDS)
    static void worthIn61IsTooLate() {
        CHECKS.refused("worthIn(0, 61)", busy(), Checks.ARGUMENT, m -> m.worthIn(0, 61));
        CHECKS.refused("worthIn(0, most)", busy(), Checks.ARGUMENT, m -> m.worthIn(0, MOST));
    }

    // ---- Promise 27: bestToBuy

    @Holds(at = "Promise 27",
        says = "Returns the tower with the greatest difference of closingPrice() and the price of now,")
    static void bestToBuyByTheRiseNotByTheClosingPrice() {
        BellHush m = new Script().list(9, 20, 10).pass(8).list(5, 20, 12).make();
        CHECKS.due("closing dear after a rise of 9", m.closingPrice(0), 81);
        CHECKS.due("closing cheap after a rise of 15", m.closingPrice(1), 15);
        CHECKS.due("the rise of 15", m.bestToBuy(), 1);
        for (int tower = 0; tower < 8; tower++) {
            BellHush full = new BellHush();
            for (int i = 0; i < 8; i++) {
                full.list(i == tower ? 5 : 4, 20, 0);
            }
            CHECKS.due("5 among 4s, full", full.bestToBuy(), tower);
        }
    }

    @Holds(at = "Promise 27",
        says = "Returns the tower with the greatest difference of closingPrice() and the price of now,")
    static void bestToBuyUnderDoves() {
        BellHush m = new Script().list(2, 20, 5).list(4, 20, 3).traders(6).make();
        CHECKS.due("rises of 8 and 8", m.bestToBuy(), 0);
        m.sell(0, 0, 1);
        CHECKS.due("rises of 6 and 8", m.bestToBuy(), 1);
        m.sell(0, 1, 2);
        CHECKS.due("rises of 6 and 4", m.bestToBuy(), 0);
        BellHush full = new Script().list(9, 20, 0).list(3, 20, 0).traders(6).make();
        for (int trader = 0; trader < 6; trader++) {
            full.sell(trader, 0, 9);
        }
        CHECKS.due("rises of 63 from 0, and of 57", full.bestToBuy(), 0);
        full.pass(14);
        CHECKS.due("rises of 45 from 18, and of 15", full.bestToBuy(), 0);
    }

    @Holds(at = "Promise 27", says = "if that is more than 0,")
    static void bestToBuyNeedsARise() {
        CHECKS.due("a rise of 1", new Script().list(1, 20, 2).make().bestToBuy(), 0);
        CHECKS.due("no rise, the stroke is next", new Script().list(9, 20, 1).make().bestToBuy(), -1);
        CHECKS.due("no rise at a price, either", new Script().list(9, 20, 0).pass(19).make().bestToBuy(), -1);
        CHECKS.due("no rise of the first", new Script().list(9, 20, 1).list(1, 20, 2).make().bestToBuy(), 1);
        BellHush doves = new Script().list(1, 10, 0).traders(1).sell(0, 0, 5).make();
        CHECKS.due("9 less 10: from 0 to 0", doves.bestToBuy(), -1);
        doves.buy(0, 0, 1);
        CHECKS.due("9 less 8: from 0 to 1", doves.bestToBuy(), 0);
    }

    @Holds(at = "Promise 27", says = "of several the smallest number;")
    static void bestToBuyOfSeveral() {
        BellHush m = new Script().list(9, 20, 1).list(2, 20, 5).list(4, 20, 3).list(8, 20, 2).make();
        CHECKS.due("rises of 0, 8, 8 and 8", m.bestToBuy(), 1);
        CHECKS.due("8 alike", new Script().towers(8, 9, 20, 0).make().bestToBuy(), 0);
    }

    @Holds(at = "Promise 27", says = "-1 if there is none")
    static void bestToBuyOfNone() {
        CHECKS.due("in a new market", new BellHush().bestToBuy(), -1);
        CHECKS.due("without towers", new Script().traders(6).pass(9).make().bestToBuy(), -1);
        CHECKS.due("8 without a rise", new Script().towers(8, 9, 20, 0).pass(19).make().bestToBuy(), -1);
        CHECKS.due("8 behind the stroke", new Script().towers(8, 9, 20, 0).pass(20).make().bestToBuy(), 0);
    }

    @Holds(at = "Promise 27", says = "(nothing is changed).")
    static void bestToBuyChangesNothing() {
        CHECKS.changesNothing("bestToBuy()", busy(), m -> m.bestToBuy());
        CHECKS.changesNothing("bestToBuy() of none", new Script(), m -> m.bestToBuy());
    }

    // ---- Promise 28: bestToSell

    @Holds(at = "Promise 28", says = "Returns how many seconds of it this one had best sell now,")
    static void bestToSellBeforeADearStroke() {
        BellHush m = new Script().list(9, 20, 0).traders(2).pass(19).make();
        CHECKS.due("sell at 171, close under one's own doves", m.bestToSell(0, 0), 9);
        m.list(9, 5, 1);
        CHECKS.due("none of the second, whose price rises", m.bestToSell(0, 1), 0);
    }

    @Holds(at = "Promise 28", says = "Returns how many seconds of it this one had best sell now,")
    static void bestToSellWhereThePriceRises() {
        BellHush m = new Script().list(9, 20, 0).traders(1).make();
        CHECKS.due("nothing held", m.bestToSell(0, 0), 0);
        m.buy(0, 0, 9);
        CHECKS.due("9 held", m.bestToSell(0, 0), 0);
    }

    @Holds(at = "Promise 28", says = "0 to 9")
    static void bestToSellFrom0To9() {
        CHECKS.due("0 at least", new Script().list(9, 20, 0).traders(1).make().bestToSell(0, 0), 0);
        CHECKS.due("9 at most", new Script().list(9, 20, 0).traders(1).pass(19).make().bestToSell(0, 0), 9);
        // 17 would lead to -9 from 8 held, and gain more by more doves; 9 is the most that one call sells.
        Script held = new Script().list(9, 20, 0).traders(1).buy(0, 0, 8).pass(19);
        CHECKS.due("9 at most, of 8 held", held.make().bestToSell(0, 0), 9);
    }

    @Holds(at = "Promise 28", says = "and no more than are allowed,")
    static void bestToSellDownToMinus9() {
        for (int sold = 1; sold <= 9; sold++) {
            BellHush m = new Script().list(9, 20, 0).traders(1).pass(19).sell(0, 0, sold).make();
            CHECKS.due("from -" + sold, m.bestToSell(0, 0), 9 - sold);
        }
        BellHush other = new Script().list(9, 20, 0).traders(2).pass(19).sell(0, 0, 9).make();
        CHECKS.due("of another one", other.bestToSell(1, 0), 9);
    }

    @Holds(at = "Promise 28", says = "so that the worth is the greatest behind the next stroke of it,")
    static void bestToSellIsTheGreatestWorthBehindTheStroke() {
        for (int held = -9; held <= 9; held++) {
            for (int second = 0; second <= 9; second++) {
                for (int loudness = 1; loudness <= 9; loudness += 2) {
                    bestToSellIsNoLessThanAnyOther(held, second, loudness);
                }
            }
        }
    }

    private static void bestToSellIsNoLessThanAnyOther(int held, int second, int loudness) {
        Script script = new Script().list(loudness, 10, 0).list(3, 7, 2).traders(2).sell(1, 0, 2).buy(0, 1, 4);
        if (held > 0) {
            script.buy(0, 0, held);
        } else if (held < 0) {
            script.sell(0, 0, -held);
        }
        if (second > 0) {
            script.pass(second);
        }
        int best = -1;
        int most = 0;
        for (int sold = 0; sold <= 9 && held - sold >= -9; sold++) {
            BellHush m = script.make();
            if (sold > 0) {
                m.sell(0, 0, sold);
            }
            m.pass(10 - second);
            if (best < 0 || m.worthOf(0) > most) {
                best = sold;
                most = m.worthOf(0);
            }
        }
        CHECKS.due("holding " + held + " in " + second + " at " + loudness, script.make().bestToSell(0, 0), best);
    }

    @Holds(at = "Promise 28", says = "so that the worth is the greatest behind the next stroke of it,")
    static void bestToSellOfOneWhoIsShort() {
        // Its own doves press what it has to be closed at, so each more may gain.
        BellHush m = new Script().list(1, 20, 0).list(9, 20, 0).traders(2).pass(18).sell(1, 1, 3).make();
        CHECKS.due("short 3 at 156, 165 to close", m.bestToSell(1, 1), 6);
        CHECKS.due("the other one under its doves", m.bestToSell(0, 1), 9);
        CHECKS.due("tower of a small rise", m.bestToSell(0, 0), 9);
        BellHush steep = new Script().list(5, 10, 0).traders(1).pass(5).sell(0, 0, 3).make();
        CHECKS.due("short 3, the rise too steep for 6 more doves", steep.bestToSell(0, 0), 0);
    }

    @Holds(at = "Promise 28", says = "if nothing else is done,")
    static void bestToSellIsOtherWhenMoreIsDone() {
        // Selling 9 at price p, to be closed at c - 18, comes to 9 * (p - c + 18) more.
        BellHush m = new Script().list(1, 20, 0).traders(2).pass(2).make();
        CHECKS.due("9 * (2 - 19 + 18) is more than none", m.bestToSell(0, 0), 9);
        m.sell(1, 0, 1);
        CHECKS.due("under another's dove: sold at 0, closed at 0", m.bestToSell(0, 0), 0);
        m.buy(1, 0, 1);
        CHECKS.due("without it", m.bestToSell(0, 0), 9);
    }

    @Holds(at = "Promise 28", says = "of several the fewest")
    static void bestToSellOfSeveral() {
        Script held = new Script().list(9, 20, 0).traders(2).buy(0, 0, 9).pass(19);
        CHECKS.due("0 to 9 held come to the same", held.make().bestToSell(0, 0), 0);
        BellHush even = new Script().list(1, 20, 0).traders(1).pass(1).make();
        CHECKS.due("9 * (1 - 19 + 18) is no more than none", even.bestToSell(0, 0), 0);
        even.pass(1);
        CHECKS.due("9 * (2 - 19 + 18) is more than none", even.bestToSell(0, 0), 9);
        BellHush free = new Script().list(1, 2, 0).traders(2).sell(1, 0, 9).make();
        CHECKS.due("any number for nothing, closed for nothing", free.bestToSell(0, 0), 0);
    }

    @Holds(at = "Promise 28", says = "of several the fewest")
    static void bestToSellOfSeveralThatAreNotNone() {
        BellHush flat = new Script().list(5, 3, 0).traders(1).pass(2).make();
        CHECKS.due("from the fifth on closed for nothing", flat.bestToSell(0, 0), 9);
        // What is held comes to the same, sold or closed; what is short gains by its doves.
        BellHush pressed = new Script().list(9, 4, 0).traders(2).buy(0, 0, 4).pass(3).sell(1, 0, 9).make();
        CHECKS.due("none to 4 come to the same, 9 to the most", pressed.bestToSell(0, 0), 9);
    }

    @Holds(at = "Promise 28", says = "(nothing is changed).")
    static void bestToSellChangesNothing() {
        for (int trader = 0; trader < 2; trader++) {
            for (int tower = 0; tower < 2; tower++) {
                int who = trader;
                int what = tower;
                CHECKS.changesNothing("bestToSell(" + trader + ", " + tower + ")", busy(),
                    m -> m.bestToSell(who, what));
            }
        }
    }

    @Holds(at = "Promise 28", says = "Throws IndexOutOfBoundsException if there is no such trader or tower")
    static void bestToSellOfNoSuchTrader() {
        EDGES.noSuchTrader("bestToSell, trader,", (m, trader) -> m.bestToSell(trader, 0));
        CHECKS.refused("bestToSell(6, 8) of 6 and 8", new Script().towers(8, 1, 2, 0).traders(6), Checks.INDEX,
            m -> m.bestToSell(6, 8));
    }

    @Holds(at = "Promise 28", says = "Throws IndexOutOfBoundsException if there is no such trader or tower")
    static void bestToSellOfNoSuchTower() {
        EDGES.noSuchTower("bestToSell, tower,", (m, tower) -> m.bestToSell(0, tower));
    }

    // ---- Promise 29: secondsUntilDebt

    @Holds(at = "Promise 29", says = "Returns behind how many seconds the purse is less than 0,")
    static void debtAtTheStrokeThatTakesMoreThanThePurseHas() {
        BellHush m = new Script().list(9, 20, 0).list(5, 10, 3).traders(3).buy(0, 0, 9).sell(1, 0, 9).make();
        CHECKS.due("at the stroke in 20", m.secondsUntilDebt(1), 20);
        m.pass(3);
        CHECKS.due("at the stroke in 17", m.secondsUntilDebt(1), 17);
        m.sell(2, 1, 9);
        CHECKS.due("at the stroke in 10: 100 less 9 at 27", m.secondsUntilDebt(2), 10);
        m.pass(9);
        CHECKS.due("at the stroke in 1", m.secondsUntilDebt(2), 1);
    }

    @Holds(at = "Promise 29", says = "Returns behind how many seconds the purse is less than 0,")
    static void debtStartsBelow0() {
        BellHush m = new Script().list(6, 6, 0).traders(1).sell(0, 0, 5).make();
        CHECKS.due("100 less 5 at 20", m.secondsUntilDebt(0), -1);
        m.sell(0, 0, 1);
        CHECKS.due("100 less 6 at 18", m.secondsUntilDebt(0), 6);
        BellHush by1 = new Script().list(9, 14, 0).traders(2).sell(0, 0, 1).sell(1, 0, 7).make();
        CHECKS.due("100 less 1 at 101", by1.secondsUntilDebt(0), 14);
    }

    @Holds(at = "Promise 29", says = "Returns behind how many seconds the purse is less than 0,")
    static void debtOverSeveralStrokes() {
        BellHush between = new Script().list(9, 10, 9).list(9, 11, 0).traders(1).sell(0, 0, 9).buy(0, 1, 9).make();
        CHECKS.due("a loss ahead of the gain that would cover it", between.secondsUntilDebt(0), 9);
        BellHush covered = new Script().list(9, 10, 0).list(9, 10, 9).traders(1).sell(0, 0, 5).buy(0, 1, 9).make();
        CHECKS.due("a gain ahead of the loss that it covers", covered.secondsUntilDebt(0), -1);
        BellHush second = new Script().list(9, 9, 0).list(9, 10, 0).traders(1).sell(0, 0, 1).sell(0, 1, 1).make();
        CHECKS.due("70 at the first stroke, 79 at the second", second.secondsUntilDebt(0), 10);
    }

    @Holds(at = "Promise 29", says = "Returns behind how many seconds the purse is less than 0,")
    static void debtByStrokesOfOneSecondTogether() {
        BellHush both = new Script().list(9, 10, 0).list(9, 10, 0).traders(2)
            .sell(0, 0, 9).buy(0, 1, 9).buy(1, 0, 9).sell(1, 1, 9).make();
        CHECKS.due("a loss made good in the same second", both.secondsUntilDebt(0), -1);
        CHECKS.due("and the other way round", both.secondsUntilDebt(1), -1);
        BellHush added = new Script().list(9, 10, 0).list(8, 10, 0).traders(1).sell(0, 0, 1).sell(0, 1, 1).make();
        CHECKS.due("79 and 70 of 100", added.secondsUntilDebt(0), 10);
        BellHush cheap = new Script().list(9, 10, 0).list(1, 10, 0).traders(1).sell(0, 1, 2).make();
        CHECKS.due("short of the cheap one alone", cheap.secondsUntilDebt(0), -1);
    }

    @Holds(at = "Promise 29", says = "Returns behind how many seconds the purse is less than 0,")
    static void debtInAFullMarket() {
        for (int tower = 0; tower < 8; tower++) {
            BellHush m = new Script().towers(8, 9, 20, 13).traders(6).sell(5, tower, 9).make();
            CHECKS.due("9 short of tower " + tower, m.secondsUntilDebt(5), 13);
            CHECKS.due("another one", m.secondsUntilDebt(4), -1);
        }
    }

    @Holds(at = "Promise 29", says = "if nothing else is done:")
    static void debtIsOffWhenMoreIsDone() {
        BellHush m = new Script().list(9, 20, 0).traders(1).sell(0, 0, 9).make();
        CHECKS.due("9 short", m.secondsUntilDebt(0), 20);
        m.buy(0, 0, 9);
        CHECKS.due("bought back", m.secondsUntilDebt(0), -1);
    }

    @Holds(at = "Promise 29", says = "0 if it is now,")
    static void debtNow() {
        Script script = new Script().list(9, 20, 0).traders(1).sell(0, 0, 9).pass(19);
        CHECKS.due("a second ahead", script.make().secondsUntilDebt(0), 1);
        CHECKS.due("now", script.pass(1).make().secondsUntilDebt(0), 0);
        CHECKS.due("still, much later", script.pass(60).make().secondsUntilDebt(0), 0);
    }

    @Holds(at = "Promise 29", says = "at most 100;")
    static void debtIsFoundUpToTheLatestStrokeThatCloses() {
        // All that is open is closed within a period, so 20 is the latest that can be; 100 is far behind it.
        for (int period = 2; period <= 20; period++) {
            Script script = new Script().list(9, period, 0).list(9, 20, 0).traders(1).pass(20).sell(0, 1, 9);
            BellHush m = script.make();
            CHECKS.due("the stroke in 20, beside a period of " + period, m.secondsUntilDebt(0), 20);
            m.pass(20);
            CHECKS.isTrue("in debt by then", m.purseOf(0) < 0);
        }
    }

    @Holds(at = "Promise 29", says = "-1 if not by then")
    static void noDebtByThen() {
        CHECKS.due("without towers", new Script().traders(1).make().secondsUntilDebt(0), -1);
        CHECKS.due("without trades", new Script().list(9, 20, 0).traders(1).make().secondsUntilDebt(0), -1);
        CHECKS.due("9 held", new Script().list(9, 20, 0).traders(1).buy(0, 0, 9).make().secondsUntilDebt(0), -1);
        CHECKS.due("9 short, closed at 0", new Script().list(1, 10, 0).traders(1).sell(0, 0, 9).make()
            .secondsUntilDebt(0), -1);
        Script empty = new Script().list(5, 20, 0).traders(1).pass(4).buy(0, 0, 5);
        CHECKS.due("a purse of 0 now", empty.make().secondsUntilDebt(0), -1);
    }

    @Holds(at = "Promise 29", says = "(nothing is changed).")
    static void secondsUntilDebtChangesNothing() {
        CHECKS.changesNothing("secondsUntilDebt(0)", busy(), m -> m.secondsUntilDebt(0));
        CHECKS.changesNothing("secondsUntilDebt(1)", busy(), m -> m.secondsUntilDebt(1));
    }

    @Holds(at = "Promise 29", says = TRADER)
    static void secondsUntilDebtOfNoSuchTrader() {
        EDGES.noSuchTrader("secondsUntilDebt", (m, trader) -> m.secondsUntilDebt(trader));
    }

    // ---- Promise 30: meanPrice

    @Holds(at = "Promise 30", says = "Returns the mean price of towers;")
    static void meanPriceOfTheTowersThereAre() {
        BellHush m = new Script().list(1, 20, 0).list(3, 20, 0).make();
        CHECKS.due("0 and 0", m.meanPrice(), 0.0);
        m.pass(1);
        CHECKS.due("1 and 3", m.meanPrice(), 2.0);
        m.list(9, 20, 0);
        CHECKS.due("1, 3 and 0", m.meanPrice(), 4.0 / 3.0);
        m.addTrader();
        m.sell(0, 1, 1);
        CHECKS.due("1, 1 and 0", m.meanPrice(), 2.0 / 3.0);
        CHECKS.due("one tower", new Script().list(7, 20, 0).pass(3).make().meanPrice(), 21.0);
    }

    @Holds(at = "Promise 30", says = "Returns the mean price of towers;")
    static void meanPriceIsNotRounded() {
        BellHush m = new Script().list(1, 20, 0).pass(1).towers(7, 9, 20, 0).make();
        CHECKS.due("1 and seven times 0", m.meanPrice(), 0.125);
        m.pass(1);
        CHECKS.due("2 and seven times 9", m.meanPrice(), 65.0 / 8.0);
        CHECKS.due("8 at 171", new Script().towers(8, 9, 20, 0).pass(19).make().meanPrice(), 171.0);
    }

    @Holds(at = "Promise 30", says = "0 without any.")
    static void meanPriceWithoutTowers() {
        CHECKS.due("in a new market", new BellHush().meanPrice(), 0.0);
        CHECKS.due("with traders", new Script().traders(6).pass(60).make().meanPrice(), 0.0);
    }

    // ---- Promise 31: digest

    @Holds(at = "Promise 31", says = "Computes a checksum. A number d starts with 2081;")
    static void digestOfANewMarket() {
        CHECKS.due("a new one", new BellHush().digest(), checksum(0, 0, 0, -1, -1, -1, 0, -1));
        // Written out once by hand: 2081 * 31^8, less 31^4, 31^3, 31^2 and 1.
        CHECKS.due("by powers", new BellHush().digest(),
            2081L * 852891037441L - 923521L - 29791L - 961L - 1L);
    }

    @Holds(at = "Promise 31", says = DIGEST)
    static void digestHas31ToThe7thMoreForASecondMore() {
        BellHush m = new BellHush();
        long first = m.digest();
        m.pass(1);
        CHECKS.due("one second more", m.digest() - first, 27512614111L);
        CHECKS.due("asked again", m.digest(), m.digest());
    }

    @Holds(at = "Promise 31", says = "which wraps around as a 64-bit integer:")
    static void digestWrapsAround() {
        BellHush m = full().make();
        BigInteger exact = BigInteger.valueOf(2081);
        for (long x : numbers(m)) {
            exact = exact.multiply(BigInteger.valueOf(31)).add(BigInteger.valueOf(x));
        }
        CHECKS.isTrue("is far over 64 bits", exact.bitLength() > 600);
        CHECKS.due("full", m.digest(), exact.longValue());
    }

    @Holds(at = "Promise 31", says = "second(), towers(), traders(), dearest(), nextToStrike(), richest(), inDebt(),"
        + " bestToBuy();")
    static void digestOfTheMarketAlone() {
        CHECKS.due("later", new Script().pass(60).make().digest(), checksum(60, 0, 0, -1, -1, -1, 0, -1));
    }

    @Holds(at = "Promise 31", says = "then for each tower silenceOf(), dovesOn(), priceOf(), secondsUntilStroke(),"
        + " strokesOf(), openSeconds(), closingPrice();")
    static void digestWithTowersWithoutTraders() {
        BellHush m = new Script().pass(5).list(4, 6, 1).make();
        CHECKS.due("one tower", m.digest(), checksum(5, 1, 0, 0, 0, -1, 0, 0, 0, 0, 0, 2, 0, 0, 4));
        m.pass(1);
        m.list(7, 9, 1);
        m.pass(3);
        CHECKS.due("two towers", m.digest(), checksum(9, 2, 0, 1, 1, -1, 0, 0,
            2, 0, 8, 4, 1, 0, 20,
            3, 0, 21, 1, 0, 0, 21));
    }

    @Holds(at = "Promise 31", says = "then for each trader purseOf(), worthOf(), shortsOf(),"
        + " and for each tower holds().")
    static void digestWithTraders() {
        CHECKS.due("a trader, no towers", new Script().traders(1).make().digest(),
            checksum(0, 0, 1, -1, -1, 0, 0, -1, 100, 100, 0));
        BellHush m = new Script().pass(5).list(4, 6, 1).list(7, 9, 1).traders(2).pass(4)
            .sell(0, 1, 5).buy(1, 0, 3).make();
        CHECKS.due("two of each", m.digest(), checksum(9, 2, 2, 1, 1, 0, 0, 0,
            2, 0, 8, 4, 1, 3, 20,
            4, 5, 18, 1, 0, -5, 18,
            240, 150, 1, 0, -5,
            76, 100, 0, 3, 0));
    }

    @Holds(at = "Promise 31", says = "Returns d.")
    static void digestOfWhatAllCallsAnswer() {
        for (Script script : List.of(new Script(), new Script().list(9, 20, 0), new Script().traders(1), busy(),
            full(), full().pass(1), full().pass(60))) {
            BellHush m = script.make();
            long d = 2081;
            for (long x : numbers(m)) {
                d = d * 31 + x;
            }
            CHECKS.due("digest()", m.digest(), d);
        }
    }

    private static long checksum(int... numbers) {
        long d = 2081;
        for (int x : numbers) {
            d = d * 31 + x;
        }
        return d;
    }

    private static List<Long> numbers(BellHush m) {
        List<Long> all = new ArrayList<>(List.of((long) m.second(), (long) m.towers(), (long) m.traders(),
            (long) m.dearest(), (long) m.nextToStrike(), (long) m.richest(), (long) m.inDebt(), (long) m.bestToBuy()));
        for (int tower = 0; tower < m.towers(); tower++) {
            all.addAll(List.of((long) m.silenceOf(tower), (long) m.dovesOn(tower), (long) m.priceOf(tower),
                (long) m.secondsUntilStroke(tower), (long) m.strokesOf(tower), (long) m.openSeconds(tower),
                (long) m.closingPrice(tower)));
        }
        for (int trader = 0; trader < m.traders(); trader++) {
            all.addAll(List.of((long) m.purseOf(trader), (long) m.worthOf(trader), (long) m.shortsOf(trader)));
            for (int tower = 0; tower < m.towers(); tower++) {
                all.add((long) m.holds(trader, tower));
            }
        }
        return all;
    }

    // ---- markets

    /** Two towers and two traders, who hold and are short of both. */
    private static Script busy() {
        return new Script().list(4, 6, 1).list(7, 9, 1).traders(2).pass(4)
            .sell(0, 1, 5).buy(0, 0, 3).buy(1, 1, 2).sell(1, 0, 9);
    }

    /** 8 towers and 6 traders, who hold much or are short of much. */
    private static Script full() {
        Script script = new Script();
        for (int tower = 0; tower < 8; tower++) {
            script.list(9 - tower, 20 - 2 * tower, 5);
        }
        script.traders(6);
        for (int trader = 0; trader < 6; trader++) {
            for (int tower = 0; tower < 8; tower++) {
                if ((trader + tower) % 2 == 0) {
                    script.buy(trader, tower, 9 - tower);
                } else {
                    script.sell(trader, tower, 2 + tower);
                }
            }
        }
        return script.pass(3);
    }
}

/** Promises 1 to 6: the market. */
public final class MarketTest {
    private static final int LEAST = Integer.MIN_VALUE;
    private static final int MOST = Integer.MAX_VALUE;
    private static final String INDEX = "Throws IndexOutOfBoundsException if there is no such trader or tower";
    private static final String TRADED = "Throws IllegalArgumentException if seconds is not 1 to 9";
    private static final String PASSED = "Throws IllegalArgumentException if seconds is not 1 to 60";
    private static final Checks CHECKS = new Checks();
    private static final Edges EDGES = new Edges(CHECKS);

    public static void main(String[] args) {
        CHECKS.run(MarketTest.class);
    }

    // ---- Promise 1: a new object

    @Holds(at = "Promise 1", says = "Creates a market")
    static void marketsStandApart() {
        BellHush one = new BellHush();
        BellHush other = new BellHush();
        other.list(9, 20, 0);
        other.addTrader();
        other.pass(3);
        other.sell(0, 0, 9);
        CHECKS.due("second() beside another one", one.second(), 0);
        CHECKS.due("towers() beside another one", one.towers(), 0);
        CHECKS.due("traders() beside another one", one.traders(), 0);
        one.list(9, 20, 0);
        one.addTrader();
        CHECKS.due("silence beside another one", one.silenceOf(0), 0);
        CHECKS.due("doves beside another one", one.dovesOn(0), 0);
        CHECKS.due("purse beside another one", one.purseOf(0), 100);
    }

    @Holds(at = "Promise 1", says = "without towers")
    static void aNewOneHasNoTowers() {
        BellHush m = new BellHush();
        CHECKS.due("towers()", m.towers(), 0);
        CHECKS.due("dearest()", m.dearest(), -1);
        CHECKS.due("nextToStrike()", m.nextToStrike(), -1);
        CHECKS.due("bestToBuy()", m.bestToBuy(), -1);
        CHECKS.due("meanPrice()", m.meanPrice(), 0.0);
        CHECKS.throwsJust("priceOf(0)", m, Checks.INDEX, c -> c.priceOf(0));
    }

    @Holds(at = "Promise 1", says = "and traders,")
    static void aNewOneHasNoTraders() {
        BellHush m = new BellHush();
        CHECKS.due("traders()", m.traders(), 0);
        CHECKS.due("richest()", m.richest(), -1);
        CHECKS.due("inDebt()", m.inDebt(), 0);
        CHECKS.throwsJust("purseOf(0)", m, Checks.INDEX, c -> c.purseOf(0));
    }

    @Holds(at = "Promise 1", says = "in the second 0.")
    static void aNewOneIsInTheSecond0() {
        BellHush m = new BellHush();
        CHECKS.due("second()", m.second(), 0);
        m.list(1, 2, 1);
        CHECKS.due("the next second is 1", m.pass(1), 1);
    }

    // ---- Promise 2: list

    @Holds(at = "Promise 2", says = "Lists a tower.")
    static void aListedTowerStandsBesideTheOthers() {
        BellHush m = new Script().list(9, 20, 0).traders(2).pass(2).sell(1, 0, 1).make();
        m.list(5, 10, 3);
        CHECKS.due("towers()", m.towers(), 2);
        CHECKS.due("silence of the new one", m.silenceOf(1), 0);
        CHECKS.due("price of the new one", m.priceOf(1), 0);
        CHECKS.due("doves on the new one", m.dovesOn(1), 0);
        CHECKS.due("strokes of the new one", m.strokesOf(1), 0);
        CHECKS.due("open seconds of the new one", m.openSeconds(1), 0);
        CHECKS.due("seconds until the new one strikes", m.secondsUntilStroke(1), 1);
        CHECKS.due("silence of the old one", m.silenceOf(0), 2);
        CHECKS.due("doves on the old one", m.dovesOn(0), 1);
        CHECKS.due("price of the old one", m.priceOf(0), 16);
        CHECKS.due("no second goes by", m.second(), 2);
    }

    @Holds(at = "Promise 2", says = "Lists a tower.")
    static void alikeTowersMayBeListed() {
        BellHush m = new Script().towers(8, 4, 6, 2).pass(1).make();
        for (int tower = 0; tower < 8; tower++) {
            CHECKS.due("price of tower " + tower, m.priceOf(tower), 4);
        }
        CHECKS.due("all strike at once", m.pass(1), 8);
    }

    @Holds(at = "Promise 2", says = "Lists a tower.")
    static void listedAroundItsBeat() {
        BellHush m = new BellHush();
        m.pass(23);
        m.list(4, 5, 3);
        CHECKS.due("in a second of its beat: silence", m.silenceOf(0), 0);
        CHECKS.due("in a second of its beat: strokes", m.strokesOf(0), 0);
        CHECKS.due("in a second of its beat: until the first stroke", m.secondsUntilStroke(0), 5);
        m.list(4, 5, 2);
        CHECKS.due("one behind its beat", m.secondsUntilStroke(1), 4);
        m.list(4, 5, 4);
        CHECKS.due("one ahead of its beat", m.secondsUntilStroke(2), 1);
        m.list(4, 5, 0);
        CHECKS.due("two ahead of its beat, by the wrap to 0", m.secondsUntilStroke(3), 2);
        CHECKS.due("strokes in the next 5 seconds, one of each", m.pass(5), 4);
    }

    @Holds(at = "Promise 2", says = "Returns its number.")
    static void theFirstIs0TheEighth7() {
        BellHush m = new BellHush();
        for (int tower = 0; tower < 8; tower++) {
            CHECKS.due("list(" + (tower + 1) + ", 20, 0)", m.list(tower + 1, 20, 0), tower);
            m.pass(1);
        }
        for (int tower = 0; tower < 8; tower++) {
            CHECKS.due("price of tower " + tower, m.priceOf(tower), (8 - tower) * (tower + 1));
        }
    }

    @Holds(at = "Promise 2", says = "Returns its number.")
    static void aRefusedListTakesNoNumber() {
        BellHush m = new BellHush();
        CHECKS.due("the first", m.list(1, 2, 0), 0);
        CHECKS.throwsJust("list(1, 2, 2)", m, Checks.ARGUMENT, c -> c.list(1, 2, 2));
        CHECKS.due("the second", m.list(1, 2, 0), 1);
    }

    @Holds(at = "Promise 2", says = "Throws IllegalArgumentException if loudness is not 1 to 9,")
    static void loudness0IsTooSmall() {
        CHECKS.refused("list(0, 2, 0)", new Script(), Checks.ARGUMENT, m -> m.list(0, 2, 0));
        CHECKS.refused("list(-1, 2, 0)", new Script(), Checks.ARGUMENT, m -> m.list(-1, 2, 0));
        CHECKS.refused("list(least, 2, 0)", new Script(), Checks.ARGUMENT, m -> m.list(LEAST, 2, 0));
    }

    @Holds(at = "Promise 2", says = "Throws IllegalArgumentException if loudness is not 1 to 9,")
    static void loudness1IsTheLeast() {
        BellHush m = new BellHush();
        CHECKS.due("list(1, 20, 0)", m.list(1, 20, 0), 0);
        m.pass(19);
        CHECKS.due("price at a loudness of 1", m.priceOf(0), 19);
    }

    @Holds(at = "Promise 2", says = "Throws IllegalArgumentException if loudness is not 1 to 9,")
    static void loudness9IsTheGreatest() {
        BellHush m = new BellHush();
        CHECKS.due("list(9, 20, 0)", m.list(9, 20, 0), 0);
        m.pass(19);
        CHECKS.due("price at a loudness of 9", m.priceOf(0), 171);
    }

    @Holds(at = "Promise 2", says = "Throws IllegalArgumentException if loudness is not 1 to 9,")
    static void loudness10IsTooLarge() {
        CHECKS.refused("list(10, 20, 19)", new Script(), Checks.ARGUMENT, m -> m.list(10, 20, 19));
        CHECKS.refused("list(most, 20, 19)", new Script(), Checks.ARGUMENT, m -> m.list(MOST, 20, 19));
    }

    @Holds(at = "Promise 2", says = "period is not 2 to 20,")
    static void period1IsTooSmall() {
        CHECKS.refused("list(1, 1, 0)", new Script(), Checks.ARGUMENT, m -> m.list(1, 1, 0));
        CHECKS.refused("list(1, 0, 0)", new Script(), Checks.ARGUMENT, m -> m.list(1, 0, 0));
        CHECKS.refused("list(1, 0, -1)", new Script(), Checks.ARGUMENT, m -> m.list(1, 0, -1));
        CHECKS.refused("list(1, -1, 0)", new Script(), Checks.ARGUMENT, m -> m.list(1, -1, 0));
        CHECKS.refused("list(1, least, 0)", new Script(), Checks.ARGUMENT, m -> m.list(1, LEAST, 0));
        CHECKS.refused("list(1, least, most)", new Script(), Checks.ARGUMENT, m -> m.list(1, LEAST, MOST));
    }

    @Holds(at = "Promise 2", says = "period is not 2 to 20,")
    static void period2IsTheLeast() {
        BellHush m = new BellHush();
        CHECKS.due("list(1, 2, 0)", m.list(1, 2, 0), 0);
        CHECKS.due("strokes in 60 seconds", m.pass(60), 30);
    }

    @Holds(at = "Promise 2", says = "period is not 2 to 20,")
    static void period20IsTheGreatest() {
        BellHush m = new BellHush();
        CHECKS.due("list(9, 20, 0)", m.list(9, 20, 0), 0);
        CHECKS.due("strokes in 60 seconds", m.pass(60), 3);
    }

    @Holds(at = "Promise 2", says = "period is not 2 to 20,")
    static void period21IsTooLarge() {
        CHECKS.refused("list(9, 21, 0)", new Script(), Checks.ARGUMENT, m -> m.list(9, 21, 0));
        CHECKS.refused("list(9, 21, 20)", new Script(), Checks.ARGUMENT, m -> m.list(9, 21, 20));
        CHECKS.refused("list(9, most, 0)", new Script(), Checks.ARGUMENT, m -> m.list(9, MOST, 0));
    }

    @Holds(at = "Promise 2", says = "or beat is not 0 to the period less 1")
    static void beatMinus1IsTooSmall() {
        for (int period = 2; period <= 20; period++) {
            int count = period;
            CHECKS.refused("list(1, " + period + ", -1)", new Script(), Checks.ARGUMENT, m -> m.list(1, count, -1));
        }
        CHECKS.refused("list(1, 20, least)", new Script(), Checks.ARGUMENT, m -> m.list(1, 20, LEAST));
    }

    @Holds(at = "Promise 2", says = "or beat is not 0 to the period less 1")
    static void beat0IsTheLeast() {
        for (int period = 2; period <= 20; period++) {
            BellHush m = new BellHush();
            CHECKS.due("list(1, " + period + ", 0)", m.list(1, period, 0), 0);
            CHECKS.due("seconds until it strikes", m.secondsUntilStroke(0), period);
        }
    }

    @Holds(at = "Promise 2", says = "or beat is not 0 to the period less 1")
    static void beatPeriodLess1IsTheGreatest() {
        for (int period = 2; period <= 20; period++) {
            BellHush m = new BellHush();
            CHECKS.due("list(1, " + period + ", " + (period - 1) + ")", m.list(1, period, period - 1), 0);
            CHECKS.due("seconds until it strikes", m.secondsUntilStroke(0), period - 1);
        }
    }

    @Holds(at = "Promise 2", says = "or beat is not 0 to the period less 1")
    static void beatOfThePeriodIsTooLarge() {
        for (int period = 2; period <= 20; period++) {
            int count = period;
            CHECKS.refused("list(1, " + period + ", " + period + ")", new Script(), Checks.ARGUMENT,
                m -> m.list(1, count, count));
        }
        CHECKS.refused("list(1, 2, 19)", new Script(), Checks.ARGUMENT, m -> m.list(1, 2, 19));
        CHECKS.refused("list(1, 20, most)", new Script(), Checks.ARGUMENT, m -> m.list(1, 20, MOST));
    }

    @Holds(at = "Promise 2", says = "Throws IllegalStateException if there are 8")
    static void anEighthIsTaken() {
        BellHush m = new Script().towers(7, 1, 2, 0).make();
        CHECKS.due("list of an eighth", m.list(9, 20, 19), 7);
        CHECKS.due("towers()", m.towers(), 8);
    }

    @Holds(at = "Promise 2", says = "Throws IllegalStateException if there are 8")
    static void aNinthIsRefused() {
        Script full = new Script().towers(8, 1, 3, 0).traders(1).sell(0, 7, 2).pass(2);
        CHECKS.refused("list of a ninth", full, Checks.STATE, m -> m.list(1, 2, 0));
        CHECKS.refused("list of a ninth behind a stroke", full.pass(1), Checks.STATE, m -> m.list(9, 20, 19));
        CHECKS.refused("list of a ninth much later", full.pass(60), Checks.STATE, m -> m.list(9, 20, 19));
    }

    @Holds(at = "Promise 2", says = "Throws IllegalStateException if there are 8")
    static void aNinthWithWrongArgumentsIsRefusedForThem() {
        Script full = new Script().towers(8, 1, 3, 0);
        CHECKS.refused("loudness", full, Checks.ARGUMENT, m -> m.list(0, 2, 0));
        CHECKS.refused("period", full, Checks.ARGUMENT, m -> m.list(1, 21, 0));
        CHECKS.refused("beat", full, Checks.ARGUMENT, m -> m.list(1, 2, 2));
    }

    // ---- Promise 3: addTrader

    @Holds(at = "Promise 3", says = "Returns the number of a new trader.")
    static void theFirstTraderIs0TheSixth5() {
        BellHush m = new BellHush();
        for (int trader = 0; trader < 6; trader++) {
            CHECKS.due("addTrader()", m.addTrader(), trader);
            CHECKS.due("its purse", m.purseOf(trader), 100);
            CHECKS.due("traders()", m.traders(), trader + 1);
        }
    }

    @Holds(at = "Promise 3", says = "Returns the number of a new trader.")
    static void aNewTraderHoldsNothingOfAnyTower() {
        BellHush m = new Script().towers(8, 9, 20, 0).traders(1).buy(0, 7, 9).sell(0, 0, 9).make();
        CHECKS.due("addTrader()", m.addTrader(), 1);
        for (int tower = 0; tower < 8; tower++) {
            CHECKS.due("holds(1, " + tower + ")", m.holds(1, tower), 0);
        }
        CHECKS.due("purse of the new one", m.purseOf(1), 100);
        CHECKS.due("holds of the old one", m.holds(0, 7), 9);
        CHECKS.due("no second goes by", m.second(), 0);
    }

    @Holds(at = "Promise 3", says = "Throws IllegalStateException if there are 6")
    static void aSixthTraderIsTaken() {
        BellHush m = new Script().traders(5).make();
        CHECKS.due("addTrader() of a sixth", m.addTrader(), 5);
    }

    @Holds(at = "Promise 3", says = "Throws IllegalStateException if there are 6")
    static void aSeventhTraderIsRefused() {
        CHECKS.refused("addTrader() of a seventh", new Script().traders(6), Checks.STATE, m -> m.addTrader());
        Script full = new Script().towers(2, 9, 4, 0).traders(6).sell(5, 1, 9).pass(60);
        CHECKS.refused("addTrader() of a seventh, much later", full, Checks.STATE, m -> m.addTrader());
    }

    // ---- Promise 4: buy

    @Holds(at = "Promise 4", says = "A trader buys seconds of a tower,")
    static void boughtSecondsAreHeldByTheBuyerOfTheTower() {
        BellHush m = new Script().towers(2, 5, 20, 0).traders(2).pass(2).make();
        m.buy(1, 0, 3);
        CHECKS.due("holds(1, 0)", m.holds(1, 0), 3);
        CHECKS.due("holds(1, 1)", m.holds(1, 1), 0);
        CHECKS.due("holds(0, 0)", m.holds(0, 0), 0);
        CHECKS.due("purse of the buyer", m.purseOf(1), 70);
        CHECKS.due("purse of the other one", m.purseOf(0), 100);
        m.buy(1, 0, 2);
        CHECKS.due("holds(1, 0) behind 2 more", m.holds(1, 0), 5);
        CHECKS.due("purse of the buyer behind 2 more", m.purseOf(1), 50);
        CHECKS.due("no second goes by", m.second(), 2);
        CHECKS.due("buying adds nothing to the price", m.priceOf(0), 10);
    }

    @Holds(at = "Promise 4", says = "at the price ahead of it for each one.")
    static void boughtAtThePriceThatItHadUnderTheDovesAheadOfIt() {
        BellHush m = new Script().list(5, 20, 0).traders(1).pass(4).make();
        CHECKS.due("sell(0, 0, 9) at 20", m.sell(0, 0, 9), 180);
        CHECKS.due("buy(0, 0, 9) at 20 - 18", m.buy(0, 0, 9), 18);
        CHECKS.due("price behind it", m.priceOf(0), 20);
        m.sell(0, 0, 3);
        CHECKS.due("buy(0, 0, 5) at 20 - 6, from short to held", m.buy(0, 0, 5), 70);
        CHECKS.due("holds behind it", m.holds(0, 0), 2);
    }

    @Holds(at = "Promise 4", says = "Returns what is paid.")
    static void paidIsThePriceForEachSecond() {
        for (int seconds = 1; seconds <= 9; seconds++) {
            BellHush m = new Script().list(5, 20, 0).traders(1).pass(2).make();
            CHECKS.due("buy(0, 0, " + seconds + ") at 10", m.buy(0, 0, seconds), 10 * seconds);
            CHECKS.due("purse behind it", m.purseOf(0), 100 - 10 * seconds);
        }
    }

    @Holds(at = "Promise 4", says = "Returns what is paid.")
    static void paidIs0AtAPriceOf0() {
        BellHush m = new Script().list(5, 20, 0).traders(1).make();
        CHECKS.due("buy(0, 0, 9) at 0", m.buy(0, 0, 9), 0);
        CHECKS.due("purse behind it", m.purseOf(0), 100);
    }

    @Holds(at = "Promise 4", says = INDEX)
    static void buyOfNoSuchTrader() {
        EDGES.noSuchTrader("buy, trader,", (m, trader) -> m.buy(trader, 0, 1));
    }

    @Holds(at = "Promise 4", says = INDEX)
    static void buyOfNoSuchTower() {
        EDGES.noSuchTower("buy, tower,", (m, tower) -> m.buy(0, tower, 1));
    }

    @Holds(at = "Promise 4", says = TRADED)
    static void buyOf0IsTooSmall() {
        Script script = new Script().list(5, 20, 0).traders(1).pass(1);
        CHECKS.refused("buy(0, 0, 0)", script, Checks.ARGUMENT, m -> m.buy(0, 0, 0));
        CHECKS.refused("buy(0, 0, -1)", script, Checks.ARGUMENT, m -> m.buy(0, 0, -1));
        CHECKS.refused("buy(0, 0, least)", script, Checks.ARGUMENT, m -> m.buy(0, 0, LEAST));
    }

    @Holds(at = "Promise 4", says = TRADED)
    static void buyOf1IsTheLeast() {
        BellHush m = new Script().list(5, 20, 0).traders(1).pass(1).make();
        CHECKS.due("buy(0, 0, 1)", m.buy(0, 0, 1), 5);
        CHECKS.due("holds(0, 0)", m.holds(0, 0), 1);
    }

    @Holds(at = "Promise 4", says = TRADED)
    static void buyOf9IsTheGreatest() {
        BellHush m = new Script().list(5, 20, 0).traders(1).pass(1).make();
        CHECKS.due("buy(0, 0, 9)", m.buy(0, 0, 9), 45);
        CHECKS.due("holds(0, 0)", m.holds(0, 0), 9);
    }

    @Holds(at = "Promise 4", says = TRADED)
    static void buyOf10IsTooLarge() {
        Script script = new Script().list(5, 20, 0).traders(1).pass(1);
        CHECKS.refused("buy(0, 0, 10)", script, Checks.ARGUMENT, m -> m.buy(0, 0, 10));
        CHECKS.refused("buy(0, 0, most)", script, Checks.ARGUMENT, m -> m.buy(0, 0, MOST));
        Script shorted = new Script().list(5, 20, 0).traders(1).sell(0, 0, 9);
        CHECKS.refused("buy(0, 0, 10) from -9", shorted, Checks.ARGUMENT, m -> m.buy(0, 0, 10));
        CHECKS.refused("buy(0, 0, 18) from -9", shorted, Checks.ARGUMENT, m -> m.buy(0, 0, 18));
    }

    @Holds(at = "Promise 4", says = TRADED)
    static void buyOfAWrongNumberThatWouldBeRefusedAnyhow() {
        Script full = new Script().list(9, 20, 0).traders(1).buy(0, 0, 9).pass(19);
        CHECKS.refused("buy(0, 0, 0)", full, Checks.ARGUMENT, m -> m.buy(0, 0, 0));
        CHECKS.refused("buy(0, 0, 10)", full, Checks.ARGUMENT, m -> m.buy(0, 0, 10));
    }

    @Holds(at = "Promise 4", says = "Throws IllegalStateException if this one would hold more than 9,")
    static void buyUpTo9AndNoMore() {
        for (int held = 1; held <= 9; held++) {
            Script script = new Script().list(5, 20, 0).traders(1).buy(0, 0, held);
            int rest = 9 - held;
            if (rest > 0) {
                BellHush m = script.make();
                m.buy(0, 0, rest);
                CHECKS.due("from " + held + " to just 9", m.holds(0, 0), 9);
            }
            CHECKS.refused("from " + held + " to 10", script, Checks.STATE, m -> m.buy(0, 0, rest + 1));
        }
    }

    @Holds(at = "Promise 4", says = "Throws IllegalStateException if this one would hold more than 9,")
    static void buyFromMinus9UpTo9() {
        Script script = new Script().list(5, 20, 0).traders(1).sell(0, 0, 9).buy(0, 0, 9);
        CHECKS.due("from -9 to 0", script.make().holds(0, 0), 0);
        CHECKS.due("from 0 to 9", script.buy(0, 0, 9).make().holds(0, 0), 9);
        CHECKS.refused("from 9 to 10", script, Checks.STATE, m -> m.buy(0, 0, 1));
    }

    @Holds(at = "Promise 4", says = "Throws IllegalStateException if this one would hold more than 9,")
    static void buyWhereAnotherOrElsewhere9AreHeld() {
        Script script = new Script().towers(2, 5, 20, 0).traders(2).buy(0, 0, 9).buy(1, 1, 9);
        CHECKS.due("9 held by another", script.make().buy(1, 0, 9), 0);
        CHECKS.due("9 held elsewhere", script.make().buy(0, 1, 9), 0);
        CHECKS.refused("a tenth of tower 0", script, Checks.STATE, m -> m.buy(0, 0, 1));
        CHECKS.refused("a tenth of tower 1", script, Checks.STATE, m -> m.buy(1, 1, 1));
    }

    @Holds(at = "Promise 4", says = "or the purse has less")
    static void buyForAllThatThePurseHas() {
        BellHush m = new Script().list(5, 20, 0).traders(1).pass(4).make();
        CHECKS.due("buy for 100 with 100", m.buy(0, 0, 5), 100);
        CHECKS.due("purse behind it", m.purseOf(0), 0);
    }

    @Holds(at = "Promise 4", says = "or the purse has less")
    static void buyFor1MoreThanThePurseHas() {
        Script script = new Script().list(9, 20, 0).traders(2).sell(1, 0, 8).pass(13);
        CHECKS.due("price, 117 - 16", script.make().priceOf(0), 101);
        CHECKS.refused("buy for 101 with 100", script, Checks.STATE, m -> m.buy(0, 0, 1));
        CHECKS.due("buy back for 99 with 201", script.sell(0, 0, 1).make().buy(0, 0, 1), 99);
        Script several = new Script().list(1, 20, 0).traders(1).pass(17);
        CHECKS.refused("buy for 102 with 100", several, Checks.STATE, m -> m.buy(0, 0, 6));
        CHECKS.due("buy for 85 with 100", several.make().buy(0, 0, 5), 85);
    }

    @Holds(at = "Promise 4", says = "or the purse has less")
    static void buyWithAnEmptyPurse() {
        Script script = new Script().list(5, 20, 0).traders(1).pass(4).buy(0, 0, 5);
        CHECKS.due("purse", script.make().purseOf(0), 0);
        CHECKS.refused("buy at 20 with 0", script, Checks.STATE, m -> m.buy(0, 0, 1));
        script.list(5, 20, 0);
        CHECKS.due("buy at 0 with 0", script.make().buy(0, 1, 9), 0);
    }

    @Holds(at = "Promise 4", says = "or the purse has less")
    static void buyInDebtEvenFor0() {
        Script script = new Script().list(9, 20, 0).traders(2).sell(0, 0, 9).pass(20);
        CHECKS.due("purse", script.make().purseOf(0), 100 - 9 * 153);
        CHECKS.due("price in the second of the stroke", script.make().priceOf(0), 0);
        CHECKS.refused("buy at 0 with less than 0", script, Checks.STATE, m -> m.buy(0, 0, 1));
        CHECKS.due("another buys at 0", script.make().buy(1, 0, 9), 0);
    }

    // ---- Promise 5: sell

    @Holds(at = "Promise 5", says = "A trader sells seconds of a tower,")
    static void soldSecondsAreTakenFromTheSellerOfTheTower() {
        BellHush m = new Script().towers(2, 5, 20, 0).traders(2).buy(1, 0, 9).pass(2).make();
        m.sell(1, 0, 3);
        CHECKS.due("holds(1, 0)", m.holds(1, 0), 6);
        CHECKS.due("holds(1, 1)", m.holds(1, 1), 0);
        CHECKS.due("holds(0, 0)", m.holds(0, 0), 0);
        CHECKS.due("purse of the seller", m.purseOf(1), 130);
        CHECKS.due("purse of the other one", m.purseOf(0), 100);
        CHECKS.due("no second goes by", m.second(), 2);
        CHECKS.due("selling what one has changes no price", m.priceOf(0), 10);
    }

    @Holds(at = "Promise 5", says = "at the price ahead of it for each one,")
    static void soldAtThePriceAheadOfItsOwnDoves() {
        BellHush m = new Script().list(5, 20, 0).traders(2).pass(4).make();
        CHECKS.due("sell(0, 0, 9) at 20", m.sell(0, 0, 9), 180);
        CHECKS.due("price behind it", m.priceOf(0), 2);
        CHECKS.due("sell(1, 0, 2) at 2", m.sell(1, 0, 2), 4);
        CHECKS.due("sell(1, 0, 2) at 0", m.sell(1, 0, 2), 0);
        CHECKS.due("doves behind it", m.dovesOn(0), 13);
    }

    @Holds(at = "Promise 5", says = "also some that this one does not have.")
    static void soldOverFromHeldToShort() {
        BellHush m = new Script().list(5, 20, 0).traders(1).buy(0, 0, 9).pass(1).make();
        CHECKS.due("4 of 9", m.sell(0, 0, 4), 20);
        CHECKS.due("holds", m.holds(0, 0), 5);
        CHECKS.due("doves", m.dovesOn(0), 0);
        CHECKS.due("9 of 5", m.sell(0, 0, 9), 45);
        CHECKS.due("holds", m.holds(0, 0), -4);
        CHECKS.due("doves", m.dovesOn(0), 4);
        CHECKS.due("purse", m.purseOf(0), 165);
    }

    @Holds(at = "Promise 5", says = "Returns what is got for them.")
    static void gotIsThePriceForEachSecond() {
        for (int seconds = 1; seconds <= 9; seconds++) {
            BellHush m = new Script().list(9, 20, 0).traders(1).pass(19).make();
            CHECKS.due("sell(0, 0, " + seconds + ") at 171", m.sell(0, 0, seconds), 171 * seconds);
            CHECKS.due("purse behind it", m.purseOf(0), 100 + 171 * seconds);
        }
    }

    @Holds(at = "Promise 5", says = "Returns what is got for them.")
    static void gotIs0AtAPriceOf0() {
        BellHush m = new Script().list(5, 20, 0).traders(1).make();
        CHECKS.due("sell(0, 0, 9) at 0", m.sell(0, 0, 9), 0);
        CHECKS.due("purse behind it", m.purseOf(0), 100);
        CHECKS.due("holds behind it", m.holds(0, 0), -9);
    }

    @Holds(at = "Promise 5", says = "Returns what is got for them.")
    static void sellInDebt() {
        BellHush m = new Script().list(9, 20, 0).traders(1).sell(0, 0, 9).pass(21).make();
        CHECKS.due("purse", m.purseOf(0), 100 - 9 * 153);
        CHECKS.due("sell(0, 0, 2) at 9", m.sell(0, 0, 2), 18);
        CHECKS.due("purse behind it", m.purseOf(0), 100 - 9 * 153 + 18);
    }

    @Holds(at = "Promise 5", says = INDEX)
    static void sellOfNoSuchTrader() {
        EDGES.noSuchTrader("sell, trader,", (m, trader) -> m.sell(trader, 0, 1));
    }

    @Holds(at = "Promise 5", says = INDEX)
    static void sellOfNoSuchTower() {
        EDGES.noSuchTower("sell, tower,", (m, tower) -> m.sell(0, tower, 1));
    }

    @Holds(at = "Promise 5", says = TRADED)
    static void sellOf0IsTooSmall() {
        Script script = new Script().list(5, 20, 0).traders(1).pass(1);
        CHECKS.refused("sell(0, 0, 0)", script, Checks.ARGUMENT, m -> m.sell(0, 0, 0));
        CHECKS.refused("sell(0, 0, -1)", script, Checks.ARGUMENT, m -> m.sell(0, 0, -1));
        CHECKS.refused("sell(0, 0, least)", script, Checks.ARGUMENT, m -> m.sell(0, 0, LEAST));
    }

    @Holds(at = "Promise 5", says = TRADED)
    static void sellOf1IsTheLeast() {
        BellHush m = new Script().list(5, 20, 0).traders(1).pass(1).make();
        CHECKS.due("sell(0, 0, 1)", m.sell(0, 0, 1), 5);
        CHECKS.due("holds(0, 0)", m.holds(0, 0), -1);
    }

    @Holds(at = "Promise 5", says = TRADED)
    static void sellOf9IsTheGreatest() {
        BellHush m = new Script().list(5, 20, 0).traders(1).pass(1).make();
        CHECKS.due("sell(0, 0, 9)", m.sell(0, 0, 9), 45);
        CHECKS.due("holds(0, 0)", m.holds(0, 0), -9);
    }

    @Holds(at = "Promise 5", says = TRADED)
    static void sellOf10IsTooLarge() {
        Script script = new Script().list(5, 20, 0).traders(1).pass(1);
        CHECKS.refused("sell(0, 0, 10)", script, Checks.ARGUMENT, m -> m.sell(0, 0, 10));
        CHECKS.refused("sell(0, 0, most)", script, Checks.ARGUMENT, m -> m.sell(0, 0, MOST));
        Script held = new Script().list(5, 20, 0).traders(1).buy(0, 0, 9);
        CHECKS.refused("sell(0, 0, 10) from 9", held, Checks.ARGUMENT, m -> m.sell(0, 0, 10));
        CHECKS.refused("sell(0, 0, 18) from 9", held, Checks.ARGUMENT, m -> m.sell(0, 0, 18));
    }

    @Holds(at = "Promise 5", says = TRADED)
    static void sellOfAWrongNumberThatWouldBeRefusedAnyhow() {
        Script full = new Script().list(9, 20, 0).traders(1).sell(0, 0, 9).pass(19);
        CHECKS.refused("sell(0, 0, 0)", full, Checks.ARGUMENT, m -> m.sell(0, 0, 0));
        CHECKS.refused("sell(0, 0, 10)", full, Checks.ARGUMENT, m -> m.sell(0, 0, 10));
    }

    @Holds(at = "Promise 5", says = "Throws IllegalStateException if this one would hold less than -9")
    static void sellDownToMinus9AndNoMore() {
        for (int sold = 1; sold <= 9; sold++) {
            Script script = new Script().list(5, 20, 0).traders(1).sell(0, 0, sold);
            int rest = 9 - sold;
            if (rest > 0) {
                BellHush m = script.make();
                m.sell(0, 0, rest);
                CHECKS.due("from -" + sold + " to just -9", m.holds(0, 0), -9);
            }
            CHECKS.refused("from -" + sold + " to -10", script, Checks.STATE, m -> m.sell(0, 0, rest + 1));
        }
    }

    @Holds(at = "Promise 5", says = "Throws IllegalStateException if this one would hold less than -9")
    static void sellFrom9DownToMinus9() {
        Script script = new Script().list(5, 20, 0).traders(1).buy(0, 0, 9).sell(0, 0, 9);
        CHECKS.due("from 9 to 0", script.make().holds(0, 0), 0);
        CHECKS.due("from 0 to -9", script.sell(0, 0, 9).make().holds(0, 0), -9);
        CHECKS.refused("from -9 to -10", script, Checks.STATE, m -> m.sell(0, 0, 1));
    }

    @Holds(at = "Promise 5", says = "Throws IllegalStateException if this one would hold less than -9")
    static void sellWhereAnotherOrElsewhere9AreShort() {
        Script script = new Script().towers(2, 5, 20, 0).traders(2).sell(0, 0, 9).sell(1, 1, 9);
        CHECKS.due("9 sold by another", script.make().sell(1, 0, 9), 0);
        CHECKS.due("9 sold elsewhere", script.make().sell(0, 1, 9), 0);
        CHECKS.refused("a tenth of tower 0", script, Checks.STATE, m -> m.sell(0, 0, 1));
        CHECKS.refused("a tenth of tower 1", script, Checks.STATE, m -> m.sell(1, 1, 1));
    }

    // ---- Promise 6: pass

    @Holds(at = "Promise 6", says = "Lets seconds go by.")
    static void passGoesOnByEachSecond() {
        BellHush m = new BellHush();
        int due = 0;
        for (int seconds = 1; seconds <= 60; seconds++) {
            m.pass(seconds);
            due += seconds;
            CHECKS.due("second() behind pass(" + seconds + ")", m.second(), due);
        }
    }

    @Holds(at = "Promise 6", says = "Lets seconds go by.")
    static void onePassComesToTheSameAsManyOf1() {
        Script start = new Script().list(9, 2, 1).list(5, 20, 0).list(3, 7, 6).traders(2)
            .sell(0, 0, 9).sell(0, 1, 9).buy(1, 1, 9).buy(1, 2, 5);
        for (int seconds = 1; seconds <= 60; seconds++) {
            BellHush single = start.make();
            int strokes = 0;
            for (int second = 0; second < seconds; second++) {
                strokes += single.pass(1);
            }
            BellHush once = start.make();
            CHECKS.due("pass(" + seconds + ")", once.pass(seconds), strokes);
            CHECKS.due("digest() behind it", once.digest(), single.digest());
        }
    }

    @Holds(at = "Promise 6", says = "Lets seconds go by.")
    static void passClosesWhatIsOpenAtEachStroke() {
        BellHush m = new Script().list(4, 5, 0).list(3, 7, 0).traders(2).pass(2)
            .buy(0, 0, 6).buy(0, 1, 2).sell(1, 0, 3).make();
        CHECKS.due("purse of the holder ahead", m.purseOf(0), 100 - 48 - 12);
        CHECKS.due("purse of the short one ahead", m.purseOf(1), 100 + 24);
        CHECKS.due("pass(2) ahead of the stroke", m.pass(2), 0);
        CHECKS.due("price ahead of the stroke", m.priceOf(0), 10);
        CHECKS.due("purse of the holder still", m.purseOf(0), 40);
        CHECKS.due("pass(1) to the stroke", m.pass(1), 1);
        CHECKS.due("purse of the holder, closed at 10", m.purseOf(0), 40 + 60);
        CHECKS.due("purse of the short one, closed at 10", m.purseOf(1), 124 - 30);
        CHECKS.due("holds of the holder", m.holds(0, 0), 0);
        CHECKS.due("holds of the short one", m.holds(1, 0), 0);
        CHECKS.due("what is held elsewhere stays", m.holds(0, 1), 2);
        CHECKS.due("silence of the other", m.silenceOf(1), 5);
    }

    @Holds(at = "Promise 6", says = "Returns how many strokes there are in them.")
    static void noStrokesWithoutTowers() {
        BellHush m = new BellHush();
        CHECKS.due("pass(60)", m.pass(60), 0);
        CHECKS.due("second() behind it", m.second(), 60);
    }

    @Holds(at = "Promise 6", says = "Returns how many strokes there are in them.")
    static void strokesOfAllTowersAreAdded() {
        BellHush m = new BellHush();
        m.pass(60);
        m.list(1, 2, 0);
        m.list(1, 3, 1);
        m.list(1, 20, 19);
        CHECKS.due("pass(1) to 61", m.pass(1), 1);
        CHECKS.due("pass(1) to 62", m.pass(1), 1);
        CHECKS.due("pass(1) to 63, without a stroke", m.pass(1), 0);
        CHECKS.due("pass(1) to 64, two in one second", m.pass(1), 2);
        CHECKS.due("pass(60) to 124", m.pass(60), 30 + 20 + 3);
    }

    @Holds(at = "Promise 6", says = "Returns how many strokes there are in them.")
    static void mostStrokesOfAFullMarket() {
        BellHush m = new Script().towers(8, 9, 2, 1).make();
        CHECKS.due("pass(60) of 8 towers", m.pass(60), 240);
        CHECKS.due("pass(1) of 8 towers", m.pass(1), 8);
    }

    @Holds(at = "Promise 6", says = "Returns how many strokes there are in them.")
    static void theLastSecondCountsTheFirstDoesNot() {
        BellHush m = new Script().list(1, 10, 0).pass(10).make();
        CHECKS.due("pass(9) from a stroke", m.pass(9), 0);
        CHECKS.due("pass(1) into a stroke", m.pass(1), 1);
        CHECKS.due("pass(10) from a stroke into one", m.pass(10), 1);
        CHECKS.due("pass(60) from a stroke into one", m.pass(60), 6);
    }

    @Holds(at = "Promise 6", says = PASSED)
    static void pass0IsTooSmall() {
        Script script = new Script().list(5, 3, 0).traders(1).pass(2).sell(0, 0, 1);
        CHECKS.refused("pass(0)", script, Checks.ARGUMENT, m -> m.pass(0));
        CHECKS.refused("pass(-1)", script, Checks.ARGUMENT, m -> m.pass(-1));
        CHECKS.refused("pass(least)", script, Checks.ARGUMENT, m -> m.pass(LEAST));
        CHECKS.refused("pass(0) of a new market", new Script(), Checks.ARGUMENT, m -> m.pass(0));
    }

    @Holds(at = "Promise 6", says = PASSED)
    static void pass1IsTheLeast() {
        BellHush m = new Script().list(5, 3, 0).pass(1).make();
        CHECKS.due("pass(1) without a stroke", m.pass(1), 0);
        CHECKS.due("pass(1) with a stroke", m.pass(1), 1);
        CHECKS.due("second()", m.second(), 3);
    }

    @Holds(at = "Promise 6", says = PASSED)
    static void pass60IsTheGreatest() {
        BellHush m = new Script().list(5, 3, 0).make();
        CHECKS.due("pass(60)", m.pass(60), 20);
        CHECKS.due("second()", m.second(), 60);
    }

    @Holds(at = "Promise 6", says = PASSED)
    static void pass61IsTooLarge() {
        Script script = new Script().list(5, 3, 0).traders(1).pass(2).sell(0, 0, 1);
        CHECKS.refused("pass(61)", script, Checks.ARGUMENT, m -> m.pass(61));
        CHECKS.refused("pass(most)", script, Checks.ARGUMENT, m -> m.pass(MOST));
        CHECKS.refused("pass(61) of a new market", new Script(), Checks.ARGUMENT, m -> m.pass(61));
    }
}

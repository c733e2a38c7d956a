import java.util.ArrayList;
import java.util.List;

/** The two sentences of "Terms" on exceptions: for every call of the face that can throw, in several markets. */
public final class RefusalsTest {
    private static final int[] INDEXES = {Integer.MIN_VALUE, -1, 0, 1, 2, 5, 6, 7, 8, Integer.MAX_VALUE};
    private static final int[] FEW_INDEXES = {-1, 0, 1, 2};
    private static final int[] TRADED = {Integer.MIN_VALUE, -1, 0, 1, 9, 10, Integer.MAX_VALUE};
    private static final int[] PASSED = {Integer.MIN_VALUE, -1, 0, 1, 60, 61, Integer.MAX_VALUE};
    private static final Checks CHECKS = new Checks();

    public static void main(String[] args) {
        CHECKS.run(RefusalsTest.class);
    }

    // ---- which exception

    @Holds(at = "Terms", says = "If several exceptions apply, the one that is named first is thrown.")
    static void listNamesWrongArgumentsAheadOfAFullMarket() {
        int[] some = {Integer.MIN_VALUE, -1, 0, 1, 2, 9, 10, 19, 20, 21, Integer.MAX_VALUE};
        for (Script script : List.of(new Script(), full())) {
            boolean full = script.make().towers() == 8;
            for (int loudness : some) {
                for (int period : some) {
                    for (int beat : some) {
                        boolean wrong = loudness < 1 || loudness > 9 || period < 2 || period > 20
                            || beat < 0 || beat > period - 1;
                        String due = wrong ? "throws.IllegalArgumentException"
                            : full ? "throws.IllegalStateException" : "0";
                        answers("list(" + loudness + ", " + period + ", " + beat + ")", script,
                            m -> m.list(loudness, period, beat), due);
                    }
                }
            }
        }
    }

    @Holds(at = "Terms", says = "If several exceptions apply, the one that is named first is thrown.")
    static void buyNamesWhoAheadOfHowManyAheadOfTheRest() {
        tradesAreRefusedInOrder("buy", (m, a) -> m.buy(a[0], a[1], a[2]),
            (m, a) -> m.holds(a[0], a[1]) + a[2] > 9 || m.purseOf(a[0]) < m.priceOf(a[1]) * a[2]);
    }

    @Holds(at = "Terms", says = "If several exceptions apply, the one that is named first is thrown.")
    static void sellNamesWhoAheadOfHowManyAheadOfTheRest() {
        tradesAreRefusedInOrder("sell", (m, a) -> m.sell(a[0], a[1], a[2]),
            (m, a) -> m.holds(a[0], a[1]) - a[2] < -9);
    }

    private interface TooMuch {
        boolean of(BellHush market, int[] arguments);
    }

    private static void tradesAreRefusedInOrder(String name, Trade trade, TooMuch tooMuch) {
        for (Script script : markets()) {
            for (int trader : INDEXES) {
                for (int tower : INDEXES) {
                    for (int seconds : TRADED) {
                        int[] a = {trader, tower, seconds};
                        answers(name + "(" + trader + ", " + tower + ", " + seconds + ")", script,
                            m -> trade.of(m, a), tradeAnswers(script.make(), a, tooMuch));
                    }
                }
            }
        }
    }

    private static String tradeAnswers(BellHush m, int[] a, TooMuch tooMuch) {
        if (a[0] < 0 || a[0] >= m.traders() || a[1] < 0 || a[1] >= m.towers()) {
            return "throws.IndexOutOfBoundsException";
        }
        if (a[2] < 1 || a[2] > 9) {
            return "throws.IllegalArgumentException";
        }
        return tooMuch.of(m, a) ? "throws.IllegalStateException" : String.valueOf(m.priceOf(a[1]) * a[2]);
    }

    @Holds(at = "Terms", says = "If several exceptions apply, the one that is named first is thrown.")
    static void priceInNamesTheTowerAheadOfTheSeconds() {
        for (Script script : markets()) {
            int towers = script.make().towers();
            for (int tower : INDEXES) {
                for (int seconds : PASSED) {
                    boolean none = tower < 0 || tower >= towers;
                    if (none || seconds < 1 || seconds > 60) {
                        CHECKS.throwsJust("priceIn(" + tower + ", " + seconds + ")", script.make(),
                            none ? Checks.INDEX : Checks.ARGUMENT, m -> m.priceIn(tower, seconds));
                    }
                }
            }
        }
    }

    @Holds(at = "Terms", says = "If several exceptions apply, the one that is named first is thrown.")
    static void worthInNamesTheTraderAheadOfTheSeconds() {
        for (Script script : markets()) {
            int traders = script.make().traders();
            for (int trader : INDEXES) {
                for (int seconds : PASSED) {
                    boolean none = trader < 0 || trader >= traders;
                    if (none || seconds < 1 || seconds > 60) {
                        CHECKS.throwsJust("worthIn(" + trader + ", " + seconds + ")", script.make(),
                            none ? Checks.INDEX : Checks.ARGUMENT, m -> m.worthIn(trader, seconds));
                    }
                }
            }
        }
    }

    // ---- nothing is changed

    @Holds(at = "Terms", says = "A method that throws an exception changes nothing.")
    static void aRefusedListChangesNothing() {
        for (Script script : List.of(new Script(), small(), full())) {
            CHECKS.refused("list(0, 2, 0)", script, Checks.ARGUMENT, m -> m.list(0, 2, 0));
            CHECKS.refused("list(10, 20, 19)", script, Checks.ARGUMENT, m -> m.list(10, 20, 19));
            CHECKS.refused("list(9, 1, 0)", script, Checks.ARGUMENT, m -> m.list(9, 1, 0));
            CHECKS.refused("list(9, 21, 0)", script, Checks.ARGUMENT, m -> m.list(9, 21, 0));
            CHECKS.refused("list(9, 20, -1)", script, Checks.ARGUMENT, m -> m.list(9, 20, -1));
            CHECKS.refused("list(9, 20, 20)", script, Checks.ARGUMENT, m -> m.list(9, 20, 20));
        }
        CHECKS.refused("list(9, 20, 19) of a ninth", full(), Checks.STATE, m -> m.list(9, 20, 19));
    }

    @Holds(at = "Terms", says = "A method that throws an exception changes nothing.")
    static void aRefusedAddTraderChangesNothing() {
        CHECKS.refused("addTrader() of a seventh", full(), Checks.STATE, m -> m.addTrader());
        CHECKS.refused("addTrader() of a seventh, without towers", new Script().traders(6), Checks.STATE,
            m -> m.addTrader());
    }

    @Holds(at = "Terms", says = "A method that throws an exception changes nothing.")
    static void aRefusedBuyChangesNothing() {
        for (Script script : List.of(new Script(), new Script().list(9, 5, 1), new Script().traders(1), small())) {
            tradeWithWrongArgumentsChangesNothing("buy", script, (m, a) -> m.buy(a[0], a[1], a[2]));
        }
        CHECKS.refused("buy of one more than 9", small(), Checks.STATE, m -> m.buy(0, 0, 1));
        CHECKS.refused("buy of 9 more than 9", small(), Checks.STATE, m -> m.buy(0, 0, 9));
        CHECKS.refused("buy for more than the purse has", small(), Checks.STATE, m -> m.buy(0, 1, 9));
        CHECKS.refused("buy in debt", inDebt(), Checks.STATE, m -> m.buy(0, 0, 1));
        CHECKS.refused("buy in a full market", full(), Checks.STATE, m -> m.buy(0, 0, 1));
        CHECKS.refused("buy of tower 8 of 8", full(), Checks.INDEX, m -> m.buy(0, 8, 1));
        CHECKS.refused("buy of trader 6 of 6", full(), Checks.INDEX, m -> m.buy(6, 0, 1));
        CHECKS.refused("buy of 10 in a full market", full(), Checks.ARGUMENT, m -> m.buy(1, 0, 10));
    }

    @Holds(at = "Terms", says = "A method that throws an exception changes nothing.")
    static void aRefusedSellChangesNothing() {
        for (Script script : List.of(new Script(), new Script().list(9, 5, 1), new Script().traders(1), small())) {
            tradeWithWrongArgumentsChangesNothing("sell", script, (m, a) -> m.sell(a[0], a[1], a[2]));
        }
        CHECKS.refused("sell of one more than down to -9", small(), Checks.STATE, m -> m.sell(1, 0, 5));
        CHECKS.refused("sell of 9 from -5", small(), Checks.STATE, m -> m.sell(1, 0, 9));
        CHECKS.refused("sell in a full market", full(), Checks.STATE, m -> m.sell(1, 0, 1));
        CHECKS.refused("sell of tower 8 of 8", full(), Checks.INDEX, m -> m.sell(0, 8, 1));
        CHECKS.refused("sell of trader 6 of 6", full(), Checks.INDEX, m -> m.sell(6, 0, 1));
        CHECKS.refused("sell of 0 in a full market", full(), Checks.ARGUMENT, m -> m.sell(0, 0, 0));
    }

    private interface Trade {
        int of(BellHush market, int[] arguments);
    }

    private static void tradeWithWrongArgumentsChangesNothing(String name, Script script, Trade trade) {
        int traders = script.make().traders();
        int towers = script.make().towers();
        for (int trader : FEW_INDEXES) {
            for (int tower : FEW_INDEXES) {
                for (int seconds : new int[] {-1, 0, 1, 10}) {
                    boolean none = trader < 0 || trader >= traders || tower < 0 || tower >= towers;
                    if (none || seconds < 1 || seconds > 9) {
                        CHECKS.refused(name + "(" + trader + ", " + tower + ", " + seconds + ")", script,
                            none ? Checks.INDEX : Checks.ARGUMENT,
                            m -> trade.of(m, new int[] {trader, tower, seconds}));
                    }
                }
            }
        }
    }

    @Holds(at = "Terms", says = "A method that throws an exception changes nothing.")
    static void aRefusedPassChangesNothing() {
        for (Script script : List.of(new Script(), small(), full())) {
            for (int seconds : new int[] {Integer.MIN_VALUE, -1, 0, 61, Integer.MAX_VALUE}) {
                CHECKS.refused("pass(" + seconds + ")", script, Checks.ARGUMENT, m -> m.pass(seconds));
            }
        }
    }

    @Holds(at = "Terms", says = "A method that throws an exception changes nothing.")
    static void aRefusedQuestionChangesNothing() {
        for (Script script : List.of(new Script(), small(), full())) {
            int tower = script.make().towers();
            int trader = script.make().traders();
            for (Call call : questionsOf(tower, trader)) {
                CHECKS.refused("a question one too high", script, Checks.INDEX, call);
            }
            for (Call call : questionsOf(-1, -1)) {
                CHECKS.refused("a question one too low", script, Checks.INDEX, call);
            }
        }
        for (Script script : List.of(small(), full())) {
            for (int seconds : new int[] {0, 61}) {
                CHECKS.refused("priceIn(0, " + seconds + ")", script, Checks.ARGUMENT, m -> m.priceIn(0, seconds));
                CHECKS.refused("worthIn(0, " + seconds + ")", script, Checks.ARGUMENT, m -> m.worthIn(0, seconds));
            }
        }
    }

    private static List<Call> questionsOf(int tower, int trader) {
        List<Call> calls = new ArrayList<>();
        calls.add(m -> m.silenceOf(tower));
        calls.add(m -> m.dovesOn(tower));
        calls.add(m -> m.priceOf(tower));
        calls.add(m -> m.secondsUntilStroke(tower));
        calls.add(m -> m.strokesOf(tower));
        calls.add(m -> m.openSeconds(tower));
        calls.add(m -> m.purseOf(trader));
        calls.add(m -> m.holds(trader, tower));
        calls.add(m -> m.worthOf(trader));
        calls.add(m -> m.shortsOf(trader));
        calls.add(m -> m.closingPrice(tower));
        calls.add(m -> m.priceIn(tower, 1));
        calls.add(m -> m.worthIn(trader, 1));
        calls.add(m -> m.bestToSell(trader, tower));
        calls.add(m -> m.secondsUntilDebt(trader));
        return calls;
    }

    // ---- markets

    private static void answers(String what, Script script, Call call, String due) {
        String got = Call.answer(call, script.make());
        CHECKS.isTrue(what + " answered " + got + ", due is " + due, got.equals(due));
    }

    private static List<Script> markets() {
        return List.of(new Script(), new Script().list(9, 5, 1), new Script().traders(1), small(), inDebt(), full());
    }

    /** Two towers in the second 18; trader 0 holds 9 and 0, trader 1 is short 5 and holds 2. */
    private static Script small() {
        return new Script().list(9, 20, 0).list(4, 7, 5).traders(2)
            .buy(0, 0, 9).sell(1, 0, 5).pass(12).buy(1, 1, 2).pass(6);
    }

    /** In the second 20, in which the only tower struck: its price is 0, and trader 0 has less than 0. */
    private static Script inDebt() {
        return new Script().list(9, 20, 0).traders(2).sell(0, 0, 9).pass(20);
    }

    /** 8 towers, 6 traders in the second 3; of tower 0 the even ones hold 9, the odd ones -9. */
    private static Script full() {
        Script script = new Script();
        for (int tower = 0; tower < 8; tower++) {
            script.list(9 - tower, 20 - 2 * tower, 5);
        }
        script.traders(6);
        for (int trader = 0; trader < 6; trader += 2) {
            script.buy(trader, 0, 9).sell(trader + 1, 0, 9);
        }
        return script.sell(2, 3, 4).sell(5, 7, 1).pass(3).buy(4, 2, 1);
    }
}

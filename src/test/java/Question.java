import java.util.ArrayList;
import java.util.HashMap;
import java.util.List;
import java.util.Map;

/** All that can be asked of a market, each with each argument, also with those next to the allowed ones. */
final class Question {
    private static final Map<String, List<Question>> KEPT = new HashMap<>();

    final String name;
    final Call call;

    private Question(String name, Call call) {
        this.name = name;
        this.call = call;
    }

    static List<Question> all(int towers, int traders) {
        return KEPT.computeIfAbsent(towers + " " + traders, key -> make(towers, traders));
    }

    private static List<Question> make(int towers, int traders) {
        List<Question> all = new ArrayList<>();
        market(all);
        for (int tower = -1; tower <= towers; tower++) {
            tower(all, tower);
        }
        for (int trader = -1; trader <= traders; trader++) {
            trader(all, trader);
            for (int tower = -1; tower <= towers; tower++) {
                both(all, trader, tower);
            }
        }
        goesOn(all);
        return all;
    }

    private static void market(List<Question> all) {
        all.add(new Question("second()", m -> m.second()));
        all.add(new Question("towers()", m -> m.towers()));
        all.add(new Question("dearest()", m -> m.dearest()));
        all.add(new Question("nextToStrike()", m -> m.nextToStrike()));
        all.add(new Question("traders()", m -> m.traders()));
        all.add(new Question("richest()", m -> m.richest()));
        all.add(new Question("inDebt()", m -> m.inDebt()));
        all.add(new Question("bestToBuy()", m -> m.bestToBuy()));
        all.add(new Question("meanPrice()", m -> m.meanPrice()));
        all.add(new Question("digest()", m -> m.digest()));
    }

    private static void tower(List<Question> all, int tower) {
        all.add(new Question("silenceOf(" + tower + ")", m -> m.silenceOf(tower)));
        all.add(new Question("dovesOn(" + tower + ")", m -> m.dovesOn(tower)));
        all.add(new Question("priceOf(" + tower + ")", m -> m.priceOf(tower)));
        all.add(new Question("secondsUntilStroke(" + tower + ")", m -> m.secondsUntilStroke(tower)));
        all.add(new Question("strokesOf(" + tower + ")", m -> m.strokesOf(tower)));
        all.add(new Question("openSeconds(" + tower + ")", m -> m.openSeconds(tower)));
        all.add(new Question("closingPrice(" + tower + ")", m -> m.closingPrice(tower)));
        for (int n = 0; n <= 61; n++) {
            int seconds = n;
            all.add(new Question("priceIn(" + tower + ", " + n + ")", m -> m.priceIn(tower, seconds)));
        }
    }

    private static void trader(List<Question> all, int trader) {
        all.add(new Question("purseOf(" + trader + ")", m -> m.purseOf(trader)));
        all.add(new Question("worthOf(" + trader + ")", m -> m.worthOf(trader)));
        all.add(new Question("shortsOf(" + trader + ")", m -> m.shortsOf(trader)));
        all.add(new Question("secondsUntilDebt(" + trader + ")", m -> m.secondsUntilDebt(trader)));
        for (int n = 0; n <= 61; n++) {
            int seconds = n;
            all.add(new Question("worthIn(" + trader + ", " + n + ")", m -> m.worthIn(trader, seconds)));
        }
    }

    private static void both(List<Question> all, int trader, int tower) {
        String pair = "(" + trader + ", " + tower;
        all.add(new Question("holds" + pair + ")", m -> m.holds(trader, tower)));
        all.add(new Question("bestToSell" + pair + ")", m -> m.bestToSell(trader, tower)));
        for (int n = 0; n <= 10; n++) {
            int seconds = n;
            all.add(new Question("buy" + pair + ", " + n + ")", m -> m.buy(trader, tower, seconds)));
            all.add(new Question("sell" + pair + ", " + n + ")", m -> m.sell(trader, tower, seconds)));
        }
    }

    /** What shows only when the market goes on. */
    private static void goesOn(List<Question> all) {
        all.add(new Question("list(9, 20, 19)", m -> m.list(9, 20, 19)));
        all.add(new Question("addTrader()", m -> m.addTrader()));
        all.add(new Question("digest() behind addTrader()", m -> Call.answer(c -> c.addTrader(), m) + m.digest()));
        for (int n = 0; n <= 61; n++) {
            int seconds = n;
            all.add(new Question("pass(" + n + ")", m -> m.pass(seconds)));
            all.add(new Question("digest() behind pass(" + n + ")",
                m -> Call.answer(c -> c.pass(seconds), m) + m.digest()));
        }
    }
}

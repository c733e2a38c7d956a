/**
 * Long runs of calls beside a market that is told as the document tells it: it divides for each
 * stroke, and looks ahead by letting a copy of itself go on, a second at a time.
 */
public final class ModelTest {
    private static final int RUNS = 1000;
    // With the 11 questions behind each third of them 506: nothing is promised behind the 512th call.
    private static final int CALLS = 110;
    private static final int ASKED_EACH = 3;
    private static final Checks CHECKS = new Checks();

    private long state;

    private ModelTest(long seed) {
        state = seed;
    }

    public static void main(String[] args) {
        for (int run = 0; run < RUNS; run++) {
            new ModelTest(run * 7919L + 17L).run("run " + run);
        }
        CHECKS.end("ModelTest");
    }

    /** A fixed row of numbers, so that a fault shows again in the next run. */
    private int below(int bound) {
        state = state * 6364136223846793005L + 1442695040888963407L;
        return (int) ((state >>> 33) % bound);
    }

    private void run(String name) {
        BellHush market = new BellHush();
        Model model = new Model();
        // Some runs stay with few towers and traders, so that one tower gets many doves.
        int mostTowers = 1 + below(9);
        int mostTraders = 1 + below(7);
        int longest = 1 + below(below(3) == 0 ? 60 : 4);
        for (int call = 0; call < CALLS; call++) {
            String what = name + ", call " + call + ": ";
            int kind = below(10);
            if (kind == 0 && model.towers <= mostTowers) {
                list(what, market, model);
            } else if (kind == 1 && model.traders <= mostTraders) {
                long got = answer(() -> market.addTrader());
                CHECKS.due(what + "addTrader()", got, model.addTrader());
            } else if (kind < 4) {
                int seconds = below(20) == 0 ? 60 + below(2) : below(longest + 1);
                CHECKS.due(what + "pass(" + seconds + ")", answer(() -> market.pass(seconds)), model.pass(seconds));
            } else {
                trade(what, market, model, kind % 2 == 0);
            }
            if (call % ASKED_EACH == ASKED_EACH - 1) {
                compare(what, market, model);
            }
        }
    }

    private void list(String what, BellHush market, Model model) {
        int loudness = below(12) - 1;
        int period = below(4) == 0 ? below(24) : 2 + below(19);
        int beat = below(6) == 0 ? below(24) - 2 : below(Math.max(1, period));
        long got = answer(() -> market.list(loudness, period, beat));
        CHECKS.due(what + "list(" + loudness + ", " + period + ", " + beat + ")", got,
            model.list(loudness, period, beat));
    }

    private void trade(String what, BellHush market, Model model, boolean buys) {
        int trader = indexOf(model.traders);
        int tower = indexOf(model.towers);
        int seconds = below(12) == 0 ? below(14) - 2 : 1 + below(9);
        String text = what + (buys ? "buy(" : "sell(") + trader + ", " + tower + ", " + seconds + ")";
        if (buys) {
            CHECKS.due(text, answer(() -> market.buy(trader, tower, seconds)), model.buy(trader, tower, seconds));
        } else {
            CHECKS.due(text, answer(() -> market.sell(trader, tower, seconds)), model.sell(trader, tower, seconds));
        }
    }

    private int indexOf(int count) {
        return below(16) == 0 || count == 0 ? below(count + 2) - 1 : below(count);
    }

    private void compare(String what, BellHush market, Model model) {
        CHECKS.due(what + "second()", market.second(), model.second);
        CHECKS.due(what + "dearest()", market.dearest(), model.dearest());
        CHECKS.due(what + "nextToStrike()", market.nextToStrike(), model.nextToStrike());
        CHECKS.due(what + "richest()", market.richest(), model.richest());
        CHECKS.due(what + "bestToBuy()", market.bestToBuy(), model.bestToBuy());
        CHECKS.due(what + "meanPrice()", market.meanPrice(), model.meanPrice());
        CHECKS.due(what + "digest()", market.digest(), model.digest());
        int seconds = 1 + below(60);
        int trader = indexOf(model.traders);
        int tower = indexOf(model.towers);
        CHECKS.due(what + "priceIn(" + tower + ", " + seconds + ")",
            answer(() -> market.priceIn(tower, seconds)), model.priceIn(tower, seconds));
        CHECKS.due(what + "worthIn(" + trader + ", " + seconds + ")",
            answer(() -> market.worthIn(trader, seconds)), model.worthIn(trader, seconds));
        CHECKS.due(what + "bestToSell(" + trader + ", " + tower + ")",
            answer(() -> market.bestToSell(trader, tower)), model.bestToSell(trader, tower));
        CHECKS.due(what + "secondsUntilDebt(" + trader + ")",
            answer(() -> market.secondsUntilDebt(trader)), model.secondsUntilDebt(trader));
    }

    private interface Question {
        long ask();
    }

    private static long answer(Question question) {
        try {
            return question.ask();
        } catch (RuntimeException e) {
            if (e.getClass() == IndexOutOfBoundsException.class) {
                return Model.INDEX;
            }
            if (e.getClass() == IllegalArgumentException.class) {
                return Model.ARGUMENT;
            }
            return e.getClass() == IllegalStateException.class ? Model.STATE : Long.MIN_VALUE;
        }
    }

    private static final class Model {
        static final long INDEX = 1_000_000_000_001L;
        static final long ARGUMENT = 1_000_000_000_002L;
        static final long STATE = 1_000_000_000_003L;

        int second;
        int towers;
        int traders;
        final int[] loudness = new int[8];
        final int[] period = new int[8];
        final int[] beat = new int[8];
        final int[] latest = new int[8];
        final int[] strokes = new int[8];
        final int[] purse = new int[6];
        final int[][] held = new int[6][8];

        Model copy() {
            Model m = new Model();
            m.second = second;
            m.towers = towers;
            m.traders = traders;
            System.arraycopy(loudness, 0, m.loudness, 0, 8);
            System.arraycopy(period, 0, m.period, 0, 8);
            System.arraycopy(beat, 0, m.beat, 0, 8);
            System.arraycopy(latest, 0, m.latest, 0, 8);
            System.arraycopy(strokes, 0, m.strokes, 0, 8);
            System.arraycopy(purse, 0, m.purse, 0, 6);
            for (int i = 0; i < 6; i++) {
                System.arraycopy(held[i], 0, m.held[i], 0, 8);
            }
            return m;
        }

        long list(int loud, int every, int rest) {
            if (loud < 1 || loud > 9 || every < 2 || every > 20 || rest < 0 || rest > every - 1) {
                return ARGUMENT;
            }
            if (towers == 8) {
                return STATE;
            }
            loudness[towers] = loud;
            period[towers] = every;
            beat[towers] = rest;
            latest[towers] = second;
            return towers++;
        }

        long addTrader() {
            if (traders == 6) {
                return STATE;
            }
            purse[traders] = 100;
            return traders++;
        }

        boolean noTrader(int i) {
            return i < 0 || i >= traders;
        }

        boolean noTower(int i) {
            return i < 0 || i >= towers;
        }

        long buy(int trader, int tower, int seconds) {
            if (noTrader(trader) || noTower(tower)) {
                return INDEX;
            }
            if (seconds < 1 || seconds > 9) {
                return ARGUMENT;
            }
            int cost = seconds * price(tower);
            if (held[trader][tower] + seconds > 9 || purse[trader] < cost) {
                return STATE;
            }
            held[trader][tower] += seconds;
            purse[trader] -= cost;
            return cost;
        }

        long sell(int trader, int tower, int seconds) {
            if (noTrader(trader) || noTower(tower)) {
                return INDEX;
            }
            if (seconds < 1 || seconds > 9) {
                return ARGUMENT;
            }
            if (held[trader][tower] - seconds < -9) {
                return STATE;
            }
            int got = seconds * price(tower);
            held[trader][tower] -= seconds;
            purse[trader] += got;
            return got;
        }

        long pass(int seconds) {
            if (seconds < 1 || seconds > 60) {
                return ARGUMENT;
            }
            int before = allStrokes();
            for (int i = 0; i < seconds; i++) {
                step();
            }
            return allStrokes() - before;
        }

        int allStrokes() {
            int sum = 0;
            for (int t = 0; t < towers; t++) {
                sum += strokes[t];
            }
            return sum;
        }

        void step() {
            int[] ahead = new int[8];
            for (int t = 0; t < towers; t++) {
                ahead[t] = price(t);
            }
            second++;
            for (int t = 0; t < towers; t++) {
                if (second % period[t] == beat[t]) {
                    for (int i = 0; i < traders; i++) {
                        purse[i] += ahead[t] * held[i][t];
                        held[i][t] = 0;
                    }
                    latest[t] = second;
                    strokes[t]++;
                }
            }
        }

        int doves(int t) {
            int sum = 0;
            for (int i = 0; i < traders; i++) {
                sum += held[i][t] < 0 ? -held[i][t] : 0;
            }
            return sum;
        }

        int price(int t) {
            int p = (second - latest[t]) * loudness[t] - 2 * doves(t);
            return p < 0 ? 0 : p;
        }

        int wait(int t) {
            int n = 1;
            while ((second + n) % period[t] != beat[t]) {
                n++;
            }
            return n;
        }

        int worth(int i) {
            int sum = purse[i];
            for (int t = 0; t < towers; t++) {
                sum += held[i][t] * price(t);
            }
            return sum;
        }

        int closing(int t) {
            Model m = copy();
            int steps = wait(t) - 1;
            for (int n = 0; n < steps; n++) {
                m.step();
            }
            return m.price(t);
        }

        int firstGreatest(long[] figures, int count) {
            int best = -1;
            for (int i = count - 1; i >= 0; i--) {
                if (best == -1 || figures[i] >= figures[best]) {
                    best = i;
                }
            }
            return best;
        }

        int dearest() {
            long[] figures = new long[8];
            for (int t = 0; t < towers; t++) {
                figures[t] = price(t);
            }
            return firstGreatest(figures, towers);
        }

        int nextToStrike() {
            long[] figures = new long[8];
            for (int t = 0; t < towers; t++) {
                figures[t] = -wait(t);
            }
            return firstGreatest(figures, towers);
        }

        int richest() {
            long[] figures = new long[6];
            for (int i = 0; i < traders; i++) {
                figures[i] = worth(i);
            }
            return firstGreatest(figures, traders);
        }

        int bestToBuy() {
            long[] figures = new long[8];
            for (int t = 0; t < towers; t++) {
                figures[t] = closing(t) - price(t);
            }
            int best = firstGreatest(figures, towers);
            return best == -1 || figures[best] <= 0 ? -1 : best;
        }

        long priceIn(int tower, int seconds) {
            if (noTower(tower)) {
                return INDEX;
            }
            Model m = copy();
            m.pass(seconds);
            return m.price(tower);
        }

        long worthIn(int trader, int seconds) {
            if (noTrader(trader)) {
                return INDEX;
            }
            Model m = copy();
            m.pass(seconds);
            return m.worth(trader);
        }

        long bestToSell(int trader, int tower) {
            if (noTrader(trader) || noTower(tower)) {
                return INDEX;
            }
            int best = 0;
            long most = Long.MIN_VALUE;
            for (int k = 0; k <= 9 && held[trader][tower] - k >= -9; k++) {
                Model m = copy();
                if (k > 0) {
                    m.sell(trader, tower, k);
                }
                m.pass(wait(tower));
                if (m.worth(trader) > most) {
                    most = m.worth(trader);
                    best = k;
                }
            }
            return best;
        }

        long secondsUntilDebt(int trader) {
            if (noTrader(trader)) {
                return INDEX;
            }
            Model m = copy();
            for (int n = 0; n <= 100; n++) {
                if (m.purse[trader] < 0) {
                    return n;
                }
                m.step();
            }
            return -1;
        }

        double meanPrice() {
            double sum = 0;
            for (int t = 0; t < towers; t++) {
                sum += price(t);
            }
            return towers == 0 ? 0 : sum / towers;
        }

        long digest() {
            int debts = 0;
            for (int i = 0; i < traders; i++) {
                debts += purse[i] < 0 ? 1 : 0;
            }
            long d = mix(2081, second, towers, traders, dearest(), nextToStrike(), richest(), debts, bestToBuy());
            for (int t = 0; t < towers; t++) {
                int open = 0;
                for (int i = 0; i < traders; i++) {
                    open += held[i][t];
                }
                d = mix(d, second - latest[t], doves(t), price(t), wait(t), strokes[t], open, closing(t));
            }
            for (int i = 0; i < traders; i++) {
                int shorts = 0;
                for (int t = 0; t < towers; t++) {
                    shorts += held[i][t] < 0 ? 1 : 0;
                }
                d = mix(d, purse[i], worth(i), shorts);
                for (int t = 0; t < towers; t++) {
                    d = mix(d, held[i][t]);
                }
            }
            return d;
        }

        static long mix(long start, int... numbers) {
            long d = start;
            for (int x : numbers) {
                d = d * 31 + x;
            }
            return d;
        }
    }
}

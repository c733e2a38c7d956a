/** A market for the silence after bells; ../shared/DOC.md says what each call promises. */
public final class BellHush {
    private static final int MOST_TOWERS = 8;
    private static final int MOST_TRADERS = 6;
    private static final int MOST_LOUDNESS = 9;
    private static final int LEAST_PERIOD = 2;
    private static final int MOST_PERIOD = 20;
    private static final int MOST_HELD = 9;
    private static final int MOST_PASSED = 60;
    private static final int FIRST_PURSE = 100;
    private static final int DEBT_HORIZON = 100;
    private static final long DIGEST_START = 2081L;

    private final int[] loudness;
    private final int[] period;
    private final int[] silence;
    // Counted down instead of dividing by the period again: always 1 to the period.
    private final int[] untilStroke;
    private final int[] strokes;
    private final int[] purse;
    private final int[][] held;
    private int second;
    private int towerCount;
    private int traderCount;

    public BellHush() {
        loudness = new int[MOST_TOWERS];
        period = new int[MOST_TOWERS];
        silence = new int[MOST_TOWERS];
        untilStroke = new int[MOST_TOWERS];
        strokes = new int[MOST_TOWERS];
        purse = new int[MOST_TRADERS];
        held = new int[MOST_TRADERS][MOST_TOWERS];
    }

    // ---- the market

    public int list(int loudness, int period, int beat) throws IllegalArgumentException, IllegalStateException {
        if (loudness < 1 || loudness > MOST_LOUDNESS) {
            throw new IllegalArgumentException("loudness is not 1 to 9");
        }
        if (period < LEAST_PERIOD || period > MOST_PERIOD) {
            throw new IllegalArgumentException("period is not 2 to 20");
        }
        if (beat < 0 || beat >= period) {
            throw new IllegalArgumentException("beat is not 0 to the period less 1");
        }
        if (towerCount >= MOST_TOWERS) {
            throw new IllegalStateException("there are 8 towers");
        }
        int tower = towerCount;
        int wait = Math.floorMod(beat - second, period);
        this.loudness[tower] = loudness;
        this.period[tower] = period;
        // A bell whose beat is this very second was listed too late for it.
        untilStroke[tower] = wait == 0 ? period : wait;
        towerCount = tower + 1;
        return tower;
    }

    public int addTrader() throws IllegalStateException {
        if (traderCount >= MOST_TRADERS) {
            throw new IllegalStateException("there are 6 traders");
        }
        int trader = traderCount;
        purse[trader] = FIRST_PURSE;
        traderCount = trader + 1;
        return trader;
    }

    public int buy(int trader, int tower, int seconds)
            throws IndexOutOfBoundsException, IllegalArgumentException, IllegalStateException {
        requireTrader(trader);
        requireTower(tower);
        requireTradable(seconds);
        int paid = priceNow(tower) * seconds;
        if (held[trader][tower] + seconds > MOST_HELD) {
            throw new IllegalStateException("this one would hold more than 9");
        }
        if (purse[trader] < paid) {
            throw new IllegalStateException("the purse has less");
        }
        purse[trader] -= paid;
        held[trader][tower] += seconds;
        return paid;
    }

    public int sell(int trader, int tower, int seconds)
            throws IndexOutOfBoundsException, IllegalArgumentException, IllegalStateException {
        requireTrader(trader);
        requireTower(tower);
        requireTradable(seconds);
        if (held[trader][tower] - seconds < -MOST_HELD) {
            throw new IllegalStateException("this one would hold less than -9");
        }
        int got = priceNow(tower) * seconds;
        purse[trader] += got;
        held[trader][tower] -= seconds;
        return got;
    }

    public int pass(int seconds) throws IllegalArgumentException {
        requirePassable(seconds);
        int struck = 0;
        for (int i = 0; i < seconds; i++) {
            struck += goOneSecond();
        }
        return struck;
    }

    // ---- towers

    public int second() {
        return second;
    }

    public int towers() {
        return towerCount;
    }

    public int silenceOf(int tower) throws IndexOutOfBoundsException {
        requireTower(tower);
        return silence[tower];
    }

    public int dovesOn(int tower) throws IndexOutOfBoundsException {
        requireTower(tower);
        return dovesNow(tower);
    }

    public int priceOf(int tower) throws IndexOutOfBoundsException {
        requireTower(tower);
        return priceNow(tower);
    }

    public int secondsUntilStroke(int tower) throws IndexOutOfBoundsException {
        requireTower(tower);
        return untilStroke[tower];
    }

    public int strokesOf(int tower) throws IndexOutOfBoundsException {
        requireTower(tower);
        return strokes[tower];
    }

    public int openSeconds(int tower) throws IndexOutOfBoundsException {
        requireTower(tower);
        return heldByAll(tower);
    }

    public int dearest() {
        int best = -1;
        for (int tower = 0; tower < towerCount; tower++) {
            if (best < 0 || priceNow(tower) > priceNow(best)) {
                best = tower;
            }
        }
        return best;
    }

    public int nextToStrike() {
        int next = -1;
        for (int tower = 0; tower < towerCount; tower++) {
            if (next < 0 || untilStroke[tower] < untilStroke[next]) {
                next = tower;
            }
        }
        return next;
    }

    // ---- traders

    public int traders() {
        return traderCount;
    }

    public int purseOf(int trader) throws IndexOutOfBoundsException {
        requireTrader(trader);
        return purse[trader];
    }

    public int holds(int trader, int tower) throws IndexOutOfBoundsException {
        requireTrader(trader);
        requireTower(tower);
        return held[trader][tower];
    }

    public int worthOf(int trader) throws IndexOutOfBoundsException {
        requireTrader(trader);
        return worthBehind(trader, 0);
    }

    public int richest() {
        int best = -1;
        for (int trader = 0; trader < traderCount; trader++) {
            if (best < 0 || worthBehind(trader, 0) > worthBehind(best, 0)) {
                best = trader;
            }
        }
        return best;
    }

    public int shortsOf(int trader) throws IndexOutOfBoundsException {
        requireTrader(trader);
        return shortTowers(trader);
    }

    public int inDebt() {
        int count = 0;
        for (int trader = 0; trader < traderCount; trader++) {
            if (purse[trader] < 0) {
                count++;
            }
        }
        return count;
    }

    // ---- what would be

    public int closingPrice(int tower) throws IndexOutOfBoundsException {
        requireTower(tower);
        return closing(tower);
    }

    public int priceIn(int tower, int seconds) throws IndexOutOfBoundsException, IllegalArgumentException {
        requireTower(tower);
        requirePassable(seconds);
        return priceBehind(tower, seconds);
    }

    public int worthIn(int trader, int seconds) throws IndexOutOfBoundsException, IllegalArgumentException {
        requireTrader(trader);
        requirePassable(seconds);
        return worthBehind(trader, seconds);
    }

    public int bestToBuy() {
        int best = -1;
        for (int tower = 0; tower < towerCount; tower++) {
            int rise = riseUntilStroke(tower);
            if (rise > 0 && (best < 0 || rise > riseUntilStroke(best))) {
                best = tower;
            }
        }
        return best;
    }

    public int bestToSell(int trader, int tower) throws IndexOutOfBoundsException {
        requireTrader(trader);
        requireTower(tower);
        int most = Math.min(MOST_HELD, held[trader][tower] + MOST_HELD);
        int best = 0;
        for (int seconds = 1; seconds <= most; seconds++) {
            if (yieldOfSelling(trader, tower, seconds) > yieldOfSelling(trader, tower, best)) {
                best = seconds;
            }
        }
        return best;
    }

    public int secondsUntilDebt(int trader) throws IndexOutOfBoundsException {
        requireTrader(trader);
        int purseThen = purse[trader];
        for (int seconds = 0; seconds <= DEBT_HORIZON; seconds++) {
            purseThen += closedIn(trader, seconds);
            if (purseThen < 0) {
                return seconds;
            }
        }
        return -1;
    }

    public double meanPrice() {
        if (towerCount < 1) {
            return 0.0;
        }
        int sum = 0;
        for (int tower = 0; tower < towerCount; tower++) {
            sum += priceNow(tower);
        }
        return (double) sum / (double) towerCount;
    }

    public long digest() {
        long d = mixed(DIGEST_START, second);
        d = mixed(d, towerCount);
        d = mixed(d, traderCount);
        d = mixed(d, dearest());
        d = mixed(d, nextToStrike());
        d = mixed(d, richest());
        d = mixed(d, inDebt());
        d = mixed(d, bestToBuy());
        for (int tower = 0; tower < towerCount; tower++) {
            d = mixedTower(d, tower);
        }
        for (int trader = 0; trader < traderCount; trader++) {
            d = mixedTrader(d, trader);
        }
        return d;
    }

    // ---- arguments

    private void requireTower(int tower) {
        if (tower < 0 || tower >= towerCount) {
            throw new IndexOutOfBoundsException("there is no such tower");
        }
    }

    private void requireTrader(int trader) {
        if (trader < 0 || trader >= traderCount) {
            throw new IndexOutOfBoundsException("there is no such trader");
        }
    }

    private static void requireTradable(int seconds) {
        if (seconds < 1 || seconds > MOST_HELD) {
            throw new IllegalArgumentException("seconds is not 1 to 9");
        }
    }

    private static void requirePassable(int seconds) {
        if (seconds < 1 || seconds > MOST_PASSED) {
            throw new IllegalArgumentException("seconds is not 1 to 60");
        }
    }

    // ---- a second

    private int goOneSecond() {
        second++;
        int struck = 0;
        for (int tower = 0; tower < towerCount; tower++) {
            if (untilStroke[tower] <= 1) {
                strike(tower);
                struck++;
            } else {
                untilStroke[tower]--;
                silence[tower]++;
            }
        }
        return struck;
    }

    private void strike(int tower) {
        // Taken ahead of the loop, for closing what is short takes doves away.
        int price = priceNow(tower);
        for (int trader = 0; trader < traderCount; trader++) {
            purse[trader] += price * held[trader][tower];
            held[trader][tower] = 0;
        }
        silence[tower] = 0;
        strokes[tower]++;
        untilStroke[tower] = period[tower];
    }

    // ---- prices

    private static int price(int silence, int loudness, int doves) {
        return Math.max(0, silence * loudness - 2 * doves);
    }

    private int dovesNow(int tower) {
        int doves = 0;
        for (int trader = 0; trader < traderCount; trader++) {
            doves += dovesFor(held[trader][tower]);
        }
        return doves;
    }

    private static int dovesFor(int heldSeconds) {
        return Math.max(0, -heldSeconds);
    }

    private int priceNow(int tower) {
        return price(silence[tower], loudness[tower], dovesNow(tower));
    }

    private int closing(int tower) {
        return closingWith(tower, dovesNow(tower));
    }

    private int closingWith(int tower, int doves) {
        return price(silence[tower] + untilStroke[tower] - 1, loudness[tower], doves);
    }

    private int riseUntilStroke(int tower) {
        return closing(tower) - priceNow(tower);
    }

    private int priceBehind(int tower, int seconds) {
        int sinceStroke = seconds - untilStroke[tower];
        if (sinceStroke < 0) {
            return price(silence[tower] + seconds, loudness[tower], dovesNow(tower));
        }
        int length = period[tower];
        int silenceThen = length < LEAST_PERIOD ? 0 : sinceStroke % length;
        return price(silenceThen, loudness[tower], 0);
    }

    // ---- what traders have

    private int heldByAll(int tower) {
        int sum = 0;
        for (int trader = 0; trader < traderCount; trader++) {
            sum += held[trader][tower];
        }
        return sum;
    }

    private int shortTowers(int trader) {
        int count = 0;
        for (int tower = 0; tower < towerCount; tower++) {
            if (held[trader][tower] < 0) {
                count++;
            }
        }
        return count;
    }

    private int worthBehind(int trader, int seconds) {
        int worth = purse[trader];
        for (int tower = 0; tower < towerCount; tower++) {
            boolean closed = untilStroke[tower] <= seconds;
            int price = closed ? closing(tower) : priceBehind(tower, seconds);
            worth += price * held[trader][tower];
        }
        return worth;
    }

    /** What the strokes of exactly the second that lies so many seconds ahead add to the purse. */
    private int closedIn(int trader, int seconds) {
        int sum = 0;
        for (int tower = 0; tower < towerCount; tower++) {
            if (untilStroke[tower] == seconds) {
                sum += closing(tower) * held[trader][tower];
            }
        }
        return sum;
    }

    /** The part of the worth behind the tower's next stroke that hangs on how many are sold now. */
    private int yieldOfSelling(int trader, int tower, int seconds) {
        int before = held[trader][tower];
        int after = before - seconds;
        int doves = dovesNow(tower) - dovesFor(before) + dovesFor(after);
        return seconds * priceNow(tower) + after * closingWith(tower, doves);
    }

    // ---- the checksum

    private static long mixed(long d, int x) {
        return d * 31L + x;
    }

    private long mixedTower(long start, int tower) {
        long d = mixed(start, silence[tower]);
        d = mixed(d, dovesNow(tower));
        d = mixed(d, priceNow(tower));
        d = mixed(d, untilStroke[tower]);
        d = mixed(d, strokes[tower]);
        d = mixed(d, heldByAll(tower));
        return mixed(d, closing(tower));
    }

    private long mixedTrader(long start, int trader) {
        long d = mixed(start, purse[trader]);
        d = mixed(d, worthBehind(trader, 0));
        d = mixed(d, shortTowers(trader));
        for (int tower = 0; tower < towerCount; tower++) {
            d = mixed(d, held[trader][tower]);
        }
        return d;
    }
}

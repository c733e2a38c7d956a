/** "Terms": what binds every call. The two sentences on exceptions stand in RefusalsTest. */
public final class TermsTest {
    private static final Checks CHECKS = new Checks();

    public static void main(String[] args) {
        CHECKS.run(TermsTest.class);
    }

    // ---- what it is about

    @Holds(at = "What it is", says = "An object is used for at most 512 calls after it has been made")
    static void the512thCallStillAnswers() {
        BellHush m = new BellHush();
        for (int call = 1; call <= 511; call++) {
            m.pass(60);
        }
        CHECKS.due("second(), the 512th call", m.second(), 511 * 60);

        BellHush struck = new BellHush();
        struck.list(9, 2, 1);
        for (int call = 2; call <= 511; call++) {
            CHECKS.due("strokes in call " + call, struck.pass(60), 30);
        }
        CHECKS.due("strokesOf(0), the 512th call", struck.strokesOf(0), 510 * 30);

        BellHush late = new BellHush();
        for (int call = 1; call <= 510; call++) {
            late.pass(60);
        }
        late.list(9, 19, 3);
        CHECKS.due("secondsUntilStroke(0), the 512th call", late.secondsUntilStroke(0), nextBeat(30600, 19, 3) - 30600);
    }

    @Holds(at = "Terms", says = "Towers are listed with their bells; the longer one has been silent,")
    static void theLongerSilentTheDearer() {
        BellHush m = new BellHush();
        m.list(1, 20, 0);
        for (int second = 1; second <= 19; second++) {
            int before = m.priceOf(0);
            m.pass(1);
            CHECKS.isTrue("dearer in second " + second, m.priceOf(0) > before);
        }
    }

    @Holds(at = "Terms", says = "and the louder it is, the dearer a second of its silence is,")
    static void theLouderTheDearer() {
        BellHush m = new BellHush();
        for (int loudness = 1; loudness <= 8; loudness++) {
            m.list(loudness, 20, 0);
        }
        m.pass(1);
        for (int tower = 1; tower < 8; tower++) {
            CHECKS.isTrue("dearer than the one before: " + tower, m.priceOf(tower) > m.priceOf(tower - 1));
        }
    }

    @Holds(at = "Terms", says = "and doves make it cheaper;")
    static void dovesMakeItCheaper() {
        BellHush m = market(1, 9, 20, 1);
        m.pass(10);
        int before = m.priceOf(0);
        m.sell(0, 0, 1);
        CHECKS.isTrue("cheaper by a dove", m.priceOf(0) < before);
    }

    @Holds(at = "Terms", says = "traders buy seconds, or sell some that they do not have,"
        + " each of which sets a dove on the tower;")
    static void eachSoldSecondThatOneDoesNotHaveSetsADove() {
        BellHush m = market(1, 1, 20, 1);
        m.buy(0, 0, 2);
        m.sell(0, 0, 1);
        CHECKS.due("doves, 1 of 2 sold", m.dovesOn(0), 0);
        m.sell(0, 0, 1);
        CHECKS.due("doves, 2 of 2 sold", m.dovesOn(0), 0);
        for (int sold = 1; sold <= 9; sold++) {
            m.sell(0, 0, 1);
            CHECKS.due("doves, " + sold + " sold that one does not have", m.dovesOn(0), sold);
        }
    }

    @Holds(at = "Terms", says = "a stroke closes all that is open there;")
    static void aStrokeClosesAllThatIsOpenThereAndNothingElse() {
        BellHush m = market(2, 1, 20, 3);
        m.list(1, 20, 10);
        for (int tower = 0; tower < 3; tower++) {
            m.buy(0, tower, 9);
            m.sell(1, tower, 9);
        }
        m.pass(10);
        CHECKS.due("open where it struck", m.openSeconds(2), 0);
        CHECKS.due("held where it struck", m.holds(0, 2), 0);
        CHECKS.due("short where it struck", m.holds(1, 2), 0);
        CHECKS.due("held elsewhere", m.holds(0, 1), 9);
        CHECKS.due("short elsewhere", m.holds(1, 0), -9);
    }

    @Holds(at = "Terms", says = "and one can ask what a second costs, when bells strike, who holds what,"
        + " how rich traders are, at which price a tower closes, how prices will be,"
        + " and what had best be bought or sold.")
    static void oneCanAsk() {
        BellHush m = market(1, 3, 8, 2);
        m.pass(2);
        m.buy(0, 0, 4);
        m.sell(1, 0, 1);
        CHECKS.due("what a second costs", m.priceOf(0), 4);
        CHECKS.due("when bells strike", m.secondsUntilStroke(0), 6);
        CHECKS.due("who holds what: 0", m.holds(0, 0), 4);
        CHECKS.due("who holds what: 1", m.holds(1, 0), -1);
        CHECKS.due("how rich traders are: 0", m.worthOf(0), 76 + 16);
        CHECKS.due("how rich traders are: 1", m.worthOf(1), 106 - 4);
        CHECKS.due("at which price a tower closes", m.closingPrice(0), 19);
        CHECKS.due("how prices will be", m.priceIn(0, 3), 13);
        CHECKS.due("what had best be bought", m.bestToBuy(), 0);
        CHECKS.due("what had best be sold", m.bestToSell(0, 0), 0);
    }

    @Holds(at = "Terms", says = "All numbers are whole.")
    static void theMeanAloneIsNoWholeNumber() {
        for (java.lang.reflect.Method method : BellHush.class.getDeclaredMethods()) {
            if (java.lang.reflect.Modifier.isPublic(method.getModifiers())) {
                Class<?> answer = method.getReturnType();
                boolean whole = answer == int.class || answer == long.class;
                CHECKS.isTrue(method.getName() + " answers a whole number",
                    whole != method.getName().equals("meanPrice"));
            }
        }
    }

    @Holds(at = "Terms", says = "Time is told in seconds, from 0.")
    static void timeStartsWith0() {
        BellHush m = new BellHush();
        CHECKS.due("the first second", m.second(), 0);
        m.pass(1);
        CHECKS.due("the one behind it", m.second(), 1);
    }

    // ---- towers

    @Holds(at = "Terms", says = "Towers. At most 8, numbered from 0;")
    static void towersAreNumberedFrom0To7() {
        BellHush m = new BellHush();
        for (int tower = 0; tower < 8; tower++) {
            CHECKS.throwsJust("silenceOf(" + tower + ") ahead of it", m, Checks.INDEX, at(tower));
            CHECKS.due("number of the next", m.list(5, 5, 0), tower);
            CHECKS.due("silenceOf(" + tower + ")", m.silenceOf(tower), 0);
        }
        CHECKS.throwsJust("silenceOf(8)", m, Checks.INDEX, at(8));
        CHECKS.throwsJust("silenceOf(-1)", m, Checks.INDEX, at(-1));
        CHECKS.throwsJust("a ninth", m, Checks.STATE, c -> c.list(5, 5, 0));
    }

    @Holds(at = "Terms", says = "each has a loudness, 1 to 9,")
    static void eachLoudnessFrom1To9IsKept() {
        for (int loudness = 1; loudness <= 9; loudness++) {
            BellHush m = market(1, loudness, 20, 0);
            m.pass(1);
            CHECKS.due("price behind 1 second", m.priceOf(0), loudness);
        }
        CHECKS.throwsJust("a loudness of 0", new BellHush(), Checks.ARGUMENT, c -> c.list(0, 2, 0));
        CHECKS.throwsJust("a loudness of 10", new BellHush(), Checks.ARGUMENT, c -> c.list(10, 2, 0));
    }

    @Holds(at = "Terms", says = "a period, 2 to 20,")
    static void eachPeriodFrom2To20IsKept() {
        for (int period = 2; period <= 20; period++) {
            BellHush m = market(1, 1, period, 0);
            CHECKS.due("strokes ahead of the period " + period, m.pass(period - 1), 0);
            CHECKS.due("strokes with the period's last second", m.pass(1), 1);
            CHECKS.due("seconds until the next one", m.secondsUntilStroke(0), period);
        }
        CHECKS.throwsJust("a period of 1", new BellHush(), Checks.ARGUMENT, c -> c.list(1, 1, 0));
        CHECKS.throwsJust("a period of 21", new BellHush(), Checks.ARGUMENT, c -> c.list(1, 21, 0));
    }

    @Holds(at = "Terms", says = "and a beat, 0 to the period less 1.")
    static void eachBeatFrom0ToThePeriodLess1IsKept() {
        for (int period = 2; period <= 20; period++) {
            int count = period;
            BellHush m = new BellHush();
            CHECKS.throwsJust("a beat of -1", m, Checks.ARGUMENT, c -> c.list(1, count, -1));
            CHECKS.throwsJust("a beat of the period " + period, m, Checks.ARGUMENT, c -> c.list(1, count, count));
            for (int beat = 0; beat < period; beat++) {
                BellHush one = new BellHush();
                one.list(1, period, beat);
                CHECKS.due("first stroke with beat " + beat, one.secondsUntilStroke(0), beat == 0 ? period : beat);
            }
        }
    }

    @Holds(at = "Terms", says = "Its bell strikes in each second that divided by the period leaves the beat.")
    static void strikesInEachSecondThatLeavesTheBeatAndInNoOther() {
        for (int period = 2; period <= 20; period++) {
            for (int beat = 0; beat < period; beat++) {
                BellHush m = new BellHush();
                m.list(1, period, beat);
                for (int second = 1; second <= 3 * period + 1; second++) {
                    CHECKS.due("strokes in second " + second + ", beat " + beat + " of " + period,
                        m.pass(1), second % period == beat ? 1 : 0);
                }
            }
        }
    }

    @Holds(at = "Terms", says = "Its bell strikes in each second that divided by the period leaves the beat.")
    static void strikesByTheSecondNotByWhenItWasListed() {
        for (int listed = 0; listed <= 41; listed++) {
            BellHush m = new BellHush();
            for (int second = 0; second < listed; second++) {
                m.pass(1);
            }
            m.list(1, 20, 7);
            int first = nextBeat(listed, 20, 7);
            CHECKS.due("seconds to the first stroke, listed in " + listed, m.secondsUntilStroke(0), first - listed);
            CHECKS.due("strokes ahead of it", first - listed == 1 ? 0 : m.pass(first - listed - 1), 0);
            CHECKS.due("strokes in it", m.pass(1), 1);
        }
    }

    @Holds(at = "Terms", says = "Its bell strikes in each second that divided by the period leaves the beat.")
    static void aPeriodGoneByOnceAndSeveralTimesInOnePass() {
        for (int seconds = 1; seconds <= 60; seconds++) {
            BellHush m = new BellHush();
            m.list(1, 7, 4);
            int strokes = 0;
            for (int second = 1; second <= seconds; second++) {
                strokes += second % 7 == 4 ? 1 : 0;
            }
            CHECKS.due("strokes in " + seconds, m.pass(seconds), strokes);
            CHECKS.due("silence behind " + seconds, m.silenceOf(0), seconds < 4 ? seconds : (seconds - 4) % 7);
        }
    }

    @Holds(at = "Terms", says = "Its silence is how many seconds went by since it struck the latest time,")
    static void silenceSinceTheLatestStroke() {
        BellHush m = market(1, 1, 4, 0);
        m.pass(5);
        CHECKS.due("1 behind the first stroke", m.silenceOf(0), 1);
        m.pass(2);
        CHECKS.due("3 behind it, the longest", m.silenceOf(0), 3);
        m.pass(2);
        CHECKS.due("1 behind the second stroke", m.silenceOf(0), 1);
        m.pass(42);
        CHECKS.due("3 behind the twelfth", m.silenceOf(0), 3);
    }

    @Holds(at = "Terms", says = "or since it was listed, if it did not strike since then;")
    static void silenceSinceItWasListed() {
        BellHush m = new BellHush();
        m.pass(13);
        m.list(1, 20, 12);
        CHECKS.due("in the second in which it is listed", m.silenceOf(0), 0);
        m.pass(1);
        CHECKS.due("1 behind it", m.silenceOf(0), 1);
        m.pass(17);
        CHECKS.due("18 behind it, the last ahead of the stroke", m.silenceOf(0), 18);
        m.pass(2);
        CHECKS.due("1 behind the stroke", m.silenceOf(0), 1);
    }

    @Holds(at = "Terms", says = "or since it was listed, if it did not strike since then;")
    static void silenceOfOneListedInASecondOfItsBeat() {
        BellHush m = new BellHush();
        m.pass(20);
        m.list(1, 20, 0);
        CHECKS.due("as listed", m.silenceOf(0), 0);
        m.pass(19);
        CHECKS.due("19 behind it", m.silenceOf(0), 19);
        m.pass(1);
        CHECKS.due("a period behind it", m.silenceOf(0), 0);
    }

    @Holds(at = "Terms", says = "0 in the second in which it strikes.")
    static void silenceIs0InTheSecondOfAStroke() {
        for (int period = 2; period <= 20; period++) {
            BellHush m = market(1, 1, period, 0);
            m.pass(period);
            CHECKS.due("in the first stroke of " + period, m.silenceOf(0), 0);
            m.pass(period);
            CHECKS.due("in the second stroke of " + period, m.silenceOf(0), 0);
        }
    }

    // ---- traders

    @Holds(at = "Terms", says = "Traders. At most 6, numbered likewise;")
    static void tradersAreNumberedFrom0To5() {
        BellHush m = new BellHush();
        for (int trader = 0; trader < 6; trader++) {
            int number = trader;
            CHECKS.throwsJust("purseOf(" + trader + ") ahead of it", m, Checks.INDEX, c -> c.purseOf(number));
            CHECKS.due("number of the next", m.addTrader(), trader);
            CHECKS.due("purseOf(" + trader + ")", m.purseOf(trader), 100);
        }
        CHECKS.throwsJust("purseOf(6)", m, Checks.INDEX, c -> c.purseOf(6));
        CHECKS.throwsJust("purseOf(-1)", m, Checks.INDEX, c -> c.purseOf(-1));
        CHECKS.throwsJust("a seventh", m, Checks.STATE, c -> c.addTrader());
    }

    @Holds(at = "Terms", says = "each has a purse, which may be less than 0")
    static void aPurseMayBeLessThan0() {
        BellHush m = market(1, 9, 20, 1);
        m.sell(0, 0, 9);
        m.pass(19);
        CHECKS.due("ahead of the stroke", m.purseOf(0), 100);
        m.pass(1);
        CHECKS.due("behind it: 100 less 9 at 171 - 18", m.purseOf(0), 100 - 9 * 153);
        m.sell(0, 0, 9);
        m.pass(20);
        CHECKS.due("behind one more", m.purseOf(0), 100 - 2 * 9 * 153);
    }

    @Holds(at = "Terms", says = "(100, at first),")
    static void aPurseHas100AtFirst() {
        BellHush m = market(1, 9, 20, 1);
        m.sell(0, 0, 9);
        m.pass(60);
        CHECKS.isTrue("the first has less by now", m.purseOf(0) < 100);
        m.addTrader();
        CHECKS.due("a later one's purse", m.purseOf(1), 100);
    }

    @Holds(at = "Terms", says = "and holds of each tower some seconds, -9 to 9")
    static void holdsFromMinus9To9OfEachTower() {
        BellHush m = market(8, 9, 20, 2);
        for (int tower = 0; tower < 8; tower++) {
            int at = tower;
            m.buy(0, tower, 9);
            m.sell(1, tower, 9);
            CHECKS.due("full: holds(0, " + tower + ")", m.holds(0, tower), 9);
            CHECKS.due("full: holds(1, " + tower + ")", m.holds(1, tower), -9);
            CHECKS.throwsJust("one more than 9", m, Checks.STATE, c -> c.buy(0, at, 1));
            CHECKS.throwsJust("one less than -9", m, Checks.STATE, c -> c.sell(1, at, 1));
        }
    }

    @Holds(at = "Terms", says = "(0, at first);")
    static void holds0AtFirst() {
        BellHush m = market(1, 9, 20, 1);
        m.buy(0, 0, 9);
        m.addTrader();
        CHECKS.due("a later trader, of the tower", m.holds(1, 0), 0);
        m.list(9, 20, 0);
        CHECKS.due("the trader, of a later tower", m.holds(0, 1), 0);
        CHECKS.due("a later trader, of a later tower", m.holds(1, 1), 0);
    }

    @Holds(at = "Terms", says = "less than 0 are sold ones that this one does not have.")
    static void lessThan0AreSoldOnesThatOneDoesNotHave() {
        BellHush m = market(1, 9, 20, 2);
        m.sell(0, 0, 4);
        CHECKS.due("4 sold of 0", m.holds(0, 0), -4);
        m.buy(1, 0, 1);
        m.sell(1, 0, 1);
        CHECKS.due("1 sold of 1", m.holds(1, 0), 0);
        m.sell(1, 0, 1);
        CHECKS.due("1 sold of 0", m.holds(1, 0), -1);
    }

    // ---- doves and prices

    @Holds(at = "Terms", says = "Doves on a tower: as many as the seconds of it are, added,")
    static void dovesOfAllTradersAreAdded() {
        BellHush m = market(1, 9, 20, 6);
        CHECKS.due("none, nothing held", m.dovesOn(0), 0);
        for (int trader = 0; trader < 6; trader++) {
            m.sell(trader, 0, trader + 1);
        }
        CHECKS.due("1, 2, 3, 4, 5 and 6", m.dovesOn(0), 21);
        for (int trader = 0; trader < 6; trader++) {
            m.sell(trader, 0, 8 - trader);
        }
        CHECKS.due("full: 9 of each of 6", m.dovesOn(0), 54);
    }

    @Holds(at = "Terms", says = "that traders hold less than 0 of,")
    static void dovesAreOnlyForWhatIsLessThan0() {
        BellHush m = market(2, 9, 20, 2);
        m.buy(0, 0, 9);
        CHECKS.due("9 held", m.dovesOn(0), 0);
        m.sell(1, 0, 2);
        CHECKS.due("9 held by one, 2 short by another", m.dovesOn(0), 2);
        CHECKS.due("the other tower", m.dovesOn(1), 0);
        m.sell(0, 1, 5);
        CHECKS.due("5 short of the other tower", m.dovesOn(1), 5);
        CHECKS.due("the first tower still", m.dovesOn(0), 2);
        m.buy(1, 0, 2);
        CHECKS.due("bought back to just 0", m.dovesOn(0), 0);
    }

    @Holds(at = "Terms", says = "without the sign.")
    static void dovesAreCountedWithoutTheSign() {
        BellHush m = market(1, 9, 20, 1);
        m.sell(0, 0, 1);
        CHECKS.due("1 short", m.dovesOn(0), 1);
        m.sell(0, 0, 8);
        CHECKS.due("9 short", m.dovesOn(0), 9);
    }

    @Holds(at = "Terms", says = "Price of a second of a tower: its silence times its loudness,")
    static void priceIsSilenceTimesLoudness() {
        for (int loudness = 1; loudness <= 9; loudness++) {
            BellHush m = market(1, loudness, 20, 0);
            for (int silence = 0; silence <= 19; silence++) {
                CHECKS.due("silence " + silence + ", loudness " + loudness, m.priceOf(0), silence * loudness);
                m.pass(1);
            }
            CHECKS.due("in the stroke", m.priceOf(0), 0);
        }
    }

    @Holds(at = "Terms", says = "less twice the doves,")
    static void eachDoveTakes2() {
        BellHush m = market(1, 9, 20, 6);
        m.pass(19);
        for (int doves = 1; doves <= 54; doves++) {
            m.sell((doves - 1) / 9, 0, 1);
            CHECKS.due("price under " + doves, m.priceOf(0), 171 - 2 * doves);
        }
    }

    @Holds(at = "Terms", says = "at least 0.")
    static void aPriceIsAtLeast0() {
        BellHush m = market(1, 5, 20, 2);
        m.pass(1);
        m.sell(0, 0, 2);
        CHECKS.due("5 less 4", m.priceOf(0), 1);
        m.sell(0, 0, 1);
        CHECKS.due("5 less 6", m.priceOf(0), 0);
        m.pass(1);
        m.sell(0, 0, 2);
        CHECKS.due("10 less 10", m.priceOf(0), 0);
        m.sell(1, 0, 9);
        CHECKS.due("10 less 28", m.priceOf(0), 0);
        BellHush full = market(1, 1, 20, 6);
        for (int trader = 0; trader < 6; trader++) {
            full.sell(trader, 0, 9);
        }
        CHECKS.due("0 less 108", full.priceOf(0), 0);
    }

    // ---- a second

    @Holds(at = "Terms", says = "A second goes like this: The second is 1 greater.")
    static void theSecondIs1Greater() {
        BellHush m = market(1, 1, 2, 0);
        for (int second = 1; second <= 60; second++) {
            m.pass(1);
            CHECKS.due("second()", m.second(), second);
        }
    }

    @Holds(at = "Terms", says = "Each tower, by numbers, whose bell strikes in it:")
    static void eachTowerThatStrikesInASecondIsClosed() {
        BellHush m = new BellHush();
        m.list(9, 4, 0);
        m.list(8, 6, 0);
        m.list(7, 12, 0);
        m.addTrader();
        m.pass(1);
        m.sell(0, 0, 1);
        m.sell(0, 1, 1);
        m.sell(0, 2, 1);
        CHECKS.due("purse", m.purseOf(0), 100 + 9 + 8 + 7);
        CHECKS.due("strokes in 2 to 4", m.pass(3), 1);
        CHECKS.due("purse, the first closed at 27 - 2", m.purseOf(0), 124 - 25);
        CHECKS.due("strokes in 5 and 6", m.pass(2), 1);
        CHECKS.due("purse, the second closed at 40 - 2", m.purseOf(0), 99 - 38);
        m.sell(0, 0, 1);
        m.buy(0, 1, 1);
        CHECKS.due("purse behind selling at 18", m.purseOf(0), 61 + 18);
        CHECKS.due("strokes in 7 and 8", m.pass(2), 1);
        CHECKS.due("purse, the first closed at 27 - 2", m.purseOf(0), 79 - 25);
        m.buy(0, 0, 1);
        CHECKS.due("strokes in 9 to 12, three in the last", m.pass(4), 3);
        CHECKS.due("purse, all closed at 27, 40 and 77 - 2", m.purseOf(0), 54 + 27 + 40 - 75);
    }

    @Holds(at = "Terms", says = "all that traders hold of it is closed at the price that it had ahead of this second:")
    static void closedAtThePriceAheadOfTheSecond() {
        BellHush m = market(1, 3, 10, 1);
        m.pass(9);
        CHECKS.due("price ahead of the stroke", m.priceOf(0), 27);
        m.buy(0, 0, 3);
        CHECKS.due("purse", m.purseOf(0), 100 - 81);
        m.pass(1);
        CHECKS.due("purse behind the stroke, not at 0 and not at 30", m.purseOf(0), 100);
    }

    @Holds(at = "Terms", says = "all that traders hold of it is closed at the price that it had ahead of this second:")
    static void allTradersAreClosedAtTheSamePrice() {
        BellHush m = market(1, 3, 10, 6);
        m.sell(0, 0, 5);
        m.buy(1, 0, 2);
        m.sell(2, 0, 4);
        m.buy(3, 0, 9);
        m.sell(4, 0, 1);
        m.pass(10);
        CHECKS.due("5 short at 27 - 20", m.purseOf(0), 100 - 35);
        CHECKS.due("2 held", m.purseOf(1), 100 + 14);
        CHECKS.due("4 short", m.purseOf(2), 100 - 28);
        CHECKS.due("9 held", m.purseOf(3), 100 + 63);
        CHECKS.due("1 short", m.purseOf(4), 100 - 7);
        CHECKS.due("nothing", m.purseOf(5), 100);
    }

    @Holds(at = "Terms", says = "all that traders hold of it is closed at the price that it had ahead of this second:")
    static void aPriceOf0AheadOfTheSecondClosesFor0() {
        BellHush m = market(1, 1, 10, 2);
        m.sell(0, 0, 9);
        m.buy(1, 0, 9);
        m.pass(10);
        CHECKS.due("9 short at 9 - 18, at least 0", m.purseOf(0), 100);
        CHECKS.due("9 held", m.purseOf(1), 100);
        CHECKS.due("closed all the same: -9", m.holds(0, 0), 0);
        CHECKS.due("closed all the same: 9", m.holds(1, 0), 0);
    }

    @Holds(at = "Terms", says = "each purse has this price times the seconds held more")
    static void whoHoldsHasMore() {
        for (int held = 1; held <= 9; held++) {
            BellHush m = market(1, 9, 20, 2);
            m.buy(0, 0, held);
            m.pass(20);
            CHECKS.due(held + " at 171", m.purseOf(0), 100 + 171 * held);
            CHECKS.due("0 at 171", m.purseOf(1), 100);
        }
    }

    @Holds(at = "Terms", says = "(less, if they are less than 0);")
    static void whoIsShortHasLess() {
        for (int sold = 1; sold <= 9; sold++) {
            BellHush m = market(1, 9, 20, 1);
            m.sell(0, 0, sold);
            m.pass(20);
            CHECKS.due(sold + " short at 171 less the doves", m.purseOf(0), 100 - (171 - 2 * sold) * sold);
        }
    }

    @Holds(at = "Terms", says = "then all hold 0 of it,")
    static void allHold0BehindTheStroke() {
        BellHush m = market(1, 1, 5, 6);
        for (int trader = 0; trader < 6; trader++) {
            if (trader % 2 == 0) {
                m.buy(trader, 0, 9);
            } else {
                m.sell(trader, 0, 9);
            }
        }
        m.pass(4);
        CHECKS.due("doves ahead of the stroke", m.dovesOn(0), 27);
        m.pass(1);
        for (int trader = 0; trader < 6; trader++) {
            CHECKS.due("holds(" + trader + ", 0)", m.holds(trader, 0), 0);
        }
        CHECKS.due("doves", m.dovesOn(0), 0);
        int purse = m.purseOf(0);
        m.pass(5);
        CHECKS.due("closed once, not again in the next stroke", m.purseOf(0), purse);
    }

    @Holds(at = "Terms", says = "and its silence is 0.")
    static void itsSilenceIs0BehindTheStroke() {
        BellHush m = market(1, 9, 2, 0);
        m.pass(1);
        CHECKS.due("ahead of the stroke", m.silenceOf(0), 1);
        m.pass(1);
        CHECKS.due("in the stroke", m.silenceOf(0), 0);
        CHECKS.due("price in the stroke", m.priceOf(0), 0);
    }

    @Holds(at = "Terms", says = "Each other tower: its silence is 1 more.")
    static void eachOtherTowerIsSilentFor1More() {
        BellHush m = new BellHush();
        m.list(1, 3, 0);
        m.list(1, 20, 19);
        m.list(1, 4, 1);
        int[][] silences = {{1, 1, 0}, {2, 2, 1}, {0, 3, 2}, {1, 4, 3}, {2, 5, 0}, {0, 6, 1}};
        for (int[] row : silences) {
            m.pass(1);
            for (int tower = 0; tower < 3; tower++) {
                CHECKS.due("silenceOf(" + tower + ") in " + m.second(), m.silenceOf(tower), row[tower]);
            }
        }
    }

    // ---- helpers

    private static Call at(int tower) {
        return c -> c.silenceOf(tower);
    }

    private static int nextBeat(int second, int period, int beat) {
        int next = second + 1;
        while (next % period != beat) {
            next++;
        }
        return next;
    }

    /** Towers alike, which strike in the seconds that their period divides. */
    private static BellHush market(int towers, int loudness, int period, int traders) {
        return new Script().towers(towers, loudness, period, 0).traders(traders).make();
    }
}

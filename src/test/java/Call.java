/** One call of a market, and what it answers. */
interface Call {
    Object on(BellHush market);

    /** The answer as a text; of a call that throws, the name of what it throws. */
    static String answer(Call call, BellHush market) {
        try {
            return String.valueOf(call.on(market));
        } catch (RuntimeException e) {
            return "throws." + e.getClass().getSimpleName();
        }
    }
}

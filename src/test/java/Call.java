import java.util.List;

/** One call of a market, and what it answers. */
interface Call {
    List<Class<? extends RuntimeException>> NAMED = List.of(IndexOutOfBoundsException.class,
        IllegalArgumentException.class, IllegalStateException.class);

    Object on(BellHush market);

    /** The answer as a text; of a call that throws, the name of what it throws. */
    static String answer(Call call, BellHush market) {
        try {
            return String.valueOf(call.on(market));
        } catch (RuntimeException e) {
            // Another one, or one below these, is the machine's: no test may take it for an answer.
            if (!NAMED.contains(e.getClass())) {
                throw e;
            }
            return "throws." + e.getClass().getSimpleName();
        }
    }
}

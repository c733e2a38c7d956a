import java.util.ArrayList;
import java.util.List;

/** A row of calls that is told once and makes markets alike, as many as are asked for. */
final class Script {
    private static final int MOST_CALLS = 512;

    private final List<Call> steps = new ArrayList<>();
    private int towers = 0;
    private int traders = 0;
    private List<String> answers = null;

    Script towers(int count, int loudness, int period, int beat) {
        for (int i = 0; i < count; i++) {
            list(loudness, period, beat);
        }
        return this;
    }

    Script list(int loudness, int period, int beat) {
        towers++;
        return then(m -> m.list(loudness, period, beat));
    }

    Script traders(int count) {
        for (int i = 0; i < count; i++) {
            traders++;
            then(m -> m.addTrader());
        }
        return this;
    }

    Script buy(int trader, int tower, int seconds) {
        return then(m -> m.buy(trader, tower, seconds));
    }

    Script sell(int trader, int tower, int seconds) {
        return then(m -> m.sell(trader, tower, seconds));
    }

    Script pass(int seconds) {
        return then(m -> m.pass(seconds));
    }

    private Script then(Call step) {
        // The document promises nothing behind the 512th call; a few are left for what is asked.
        if (steps.size() > MOST_CALLS - 10) {
            throw new IllegalStateException("too many calls for one market");
        }
        steps.add(step);
        answers = null;
        return this;
    }

    BellHush make() {
        BellHush market = new BellHush();
        for (Call step : steps) {
            step.on(market);
        }
        return market;
    }

    /** The questions whose answers differ behind this call from what they are without it. */
    List<String> changedBy(Call call) {
        List<Question> questions = Question.all(towers, traders);
        if (answers == null) {
            answers = answersTo(questions);
        }
        List<String> changed = new ArrayList<>();
        for (int i = 0; i < questions.size(); i++) {
            // Each question has a market of its own, so that none of them hides what another would show.
            BellHush market = make();
            Call.answer(call, market);
            String now = Call.answer(questions.get(i).call, market);
            if (!now.equals(answers.get(i))) {
                changed.add(questions.get(i).name + " answers " + now + ", without the call " + answers.get(i));
            }
        }
        return changed;
    }

    private List<String> answersTo(List<Question> questions) {
        List<String> all = new ArrayList<>();
        for (Question question : questions) {
            all.add(Call.answer(question.call, make()));
        }
        return all;
    }
}

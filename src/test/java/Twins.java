import java.util.function.Consumer;
import java.util.function.ToLongFunction;

/** Two benches with the same calls behind them: only one is asked, and both must go on alike. */
final class Twins {
    private static final int MOST_STREAMS = 40;
    /** A look takes some 450 calls, and an object is promised for 512. */
    private static final int STEPS_LOOKED_AT = 5;

    private final Check check;

    Twins(Check check) {
        this.check = check;
    }

    void due(String name, Consumer<RatioStreams> calls, ToLongFunction<RatioStreams> asked, long want) {
        RatioStreams one = new RatioStreams();
        RatioStreams other = new RatioStreams();
        calls.accept(one);
        calls.accept(other);
        check.due(name, asked.applyAsLong(one), want);
        Look mine = new Look(one);
        Look due = new Look(other);
        for (int i = 0; i < due.at; i++) {
            check.due(name + ", then " + due.names[i], mine.answers[i], due.answers[i]);
        }
    }

    /** Answers that together tell all that a bench holds. */
    private static final class Look {
        private final String[] names = new String[512];
        private final long[] answers = new long[512];
        private int at = 0;

        Look(RatioStreams b) {
            for (int what = 0; what < 3; what++) {
                add("count " + what, b.count(what));
            }
            rolled(b);
            for (int s = 0; s < MOST_STREAMS; s++) {
                stream(b, s);
            }
            for (int i = 0; i < 8; i++) {
                add("factor " + i, b.factor(i, 0));
            }
            rows(b);
        }

        private void add(String name, long answer) {
            names[at] = name;
            answers[at] = answer;
            at++;
        }

        private void rolled(RatioStreams b) {
            int steps = (int) b.roll(RatioStreams.NONE, 0);
            add("steps", steps);
            for (int i = Math.max(0, steps - STEPS_LOOKED_AT); i < steps; i++) {
                for (int what = 0; what < 10; what++) {
                    add("roll " + i + ", " + what, b.roll(i, what));
                }
            }
        }

        private void stream(RatioStreams b, int s) {
            for (int what = 0; what < 5; what++) {
                add("told " + s + ", " + what, b.told(s, what));
            }
            add("part " + s + ", 0", b.part(s, 0));
            add("part " + s + ", 1", b.part(s, 1));
            add("exact " + s + ", 0", b.exact(s, 0));
            add("exact " + s + ", 1", b.exact(s, 1));
        }

        /** The ROWS can be told only by the RULE that they make; its number tells the least free one. */
        private void rows(RatioStreams b) {
            add("drop 39", b.drop(39));
            long rule = b.rule(0);
            add("rule", rule);
            for (int k = 1; k < 10; k++) {
                add("part " + k + " of the rule", b.part((int) rule, k));
            }
            add("ratio behind it", b.ratio(1, 1));
        }
    }
}

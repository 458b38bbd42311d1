/** Holds answers against those that are due, and ends the program with 1 if one was wrong. */
final class Check {
    static final long UNKNOWN = RatioStreams.UNKNOWN;
    static final long OUTSIDE = RatioStreams.OUTSIDE;
    static final long STATE = RatioStreams.STATE;
    static final long FULL = RatioStreams.FULL;
    static final long ISFAR = RatioStreams.ISFAR;
    static final long ISOPEN = RatioStreams.ISOPEN;
    static final int NONE = RatioStreams.NONE;

    private final String name;
    private int asked = 0;
    private int wrong = 0;

    Check(String name) {
        this.name = name;
    }

    void due(String call, long got, long want) {
        asked++;
        if (got != want) {
            wrong++;
            if (wrong <= 50) {
                System.out.println(name + ": " + call + " answered " + got + ", due is " + want);
            }
        }
    }

    void dueText(String what, String got, String want) {
        asked++;
        if (!got.equals(want)) {
            wrong++;
            System.out.println(name + ": " + what + " is " + got + ", due is " + want);
        }
    }

    boolean hasWrong() {
        return wrong != 0;
    }

    /** The KNOWN PARTS, read off by part(). */
    void dueParts(RatioStreams bench, int s, long... want) {
        for (int k = 0; k < want.length; k++) {
            due("part(" + s + ", " + k + ")", bench.part(s, k), want[k]);
        }
    }

    void dueExact(RatioStreams bench, int s, long... want) {
        for (int k = 0; k < want.length; k++) {
            due("exact(" + s + ", " + k + ")", bench.exact(s, k), want[k]);
        }
    }

    void end() {
        System.out.println(name + ": " + asked + " answers, " + wrong + " wrong");
        if (wrong != 0) {
            System.exit(1);
        }
    }
}

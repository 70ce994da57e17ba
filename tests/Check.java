import java.util.Arrays;

/** Compares answers with what is due; a test ends with exit code 1 if one was wrong. */
final class Check {
    interface Call {
        int run();
    }

    interface Deed {
        void run();
    }

    static final Class<IllegalArgumentException> ARGUMENT = IllegalArgumentException.class;
    static final Class<IllegalStateException> STATE = IllegalStateException.class;
    static final Class<IndexOutOfBoundsException> INDEX = IndexOutOfBoundsException.class;

    private int wrong;

    void same(String call, long want, long got) {
        if (got != want) {
            report(call, Long.toString(got), Long.toString(want));
        }
    }

    void row(String call, int[] want, int[] got) {
        if (!Arrays.equals(want, got)) {
            report(call, Arrays.toString(got), Arrays.toString(want));
        }
    }

    void refused(String call, Class<? extends RuntimeException> want, Call deed) {
        refusedDeed(call, want, deed::run);
    }

    void refusedDeed(String call, Class<? extends RuntimeException> want, Deed deed) {
        String got = "nothing";
        try {
            deed.run();
        } catch (RuntimeException e) {
            got = e.getClass().getSimpleName();
        }
        if (!got.equals(want.getSimpleName())) {
            report(call, "throwing " + got, "throwing " + want.getSimpleName());
        }
    }

    void report(String call, String got, String want) {
        wrong++;
        System.out.println(call + " answered " + got + ", due is " + want);
    }

    boolean hasFound() {
        return wrong > 0;
    }

    void end() {
        System.out.println(wrong == 0 ? "all answers are as due" : wrong + " answers are not as due");
        if (wrong > 0) {
            System.exit(1);
        }
    }

    /** Every answer that can be asked for, so that two states can be told apart. */
    static int[] stateOf(CountingNetwork x) {
        int width = x.about(0);
        int tokens = x.about(1);
        int letters = x.letter(-1, 0);
        int balancers = width == 2 ? 1 : width == 4 ? 6 : 24;
        int[] all = new int[6 + 1 + 2 * letters + 5 * tokens + 3 * width + 5 * balancers];
        int n = 0;
        for (int what = 0; what <= 5; what++) {
            all[n++] = x.about(what);
        }
        all[n++] = letters;
        for (int i = 0; i < letters; i++) {
            all[n++] = x.letter(i, 0);
            all[n++] = x.letter(i, 1);
        }
        for (int t = 0; t < tokens; t++) {
            for (int what = 0; what <= 4; what++) {
                all[n++] = x.token(t, what);
            }
        }
        for (int i = 0; i < width; i++) {
            for (int what = 0; what <= 2; what++) {
                all[n++] = x.exit(i, what);
            }
        }
        for (int b = 0; b < balancers; b++) {
            for (int what = 0; what <= 4; what++) {
                all[n++] = x.balancer(b, what);
            }
        }
        return all;
    }

    static CountingNetwork network(int width, int stations) {
        CountingNetwork x = new CountingNetwork();
        x.build(width, stations);
        return x;
    }
}

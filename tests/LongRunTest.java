import java.util.Random;

/** "An object is used for at most 512 calls": up to the last of them every promise holds. */
public final class LongRunTest {
    private static final int SEEDS = 150;

    private static final Check check = new Check();

    public static void main(String[] args) {
        emptyAllTheTime();
        twoHundredTokens();
        sixtyLettersAllTheTime();
        fortyTokensAllTheTime();
        manyWays();
        settlingAllTheTime();
        buildingAllTheTime();
        stationsUpAndDown();
        for (int seed = 0; seed < SEEDS && !check.hasFound(); seed++) {
            neverFarFromFull(seed);
            neverFarFromEmpty(seed);
        }
        check.end();
    }

    private static void last(Run run, String want, String name, int a, int b) {
        String due = run.call(name, a, b);
        if (!due.equals(want)) {
            check.report("the model's " + new Call(name, a, b), due, want);
        }
        check.same(run.title + ": calls", Run.MOST_CALLS, run.length());
    }

    private static void emptyAllTheTime() {
        Run run = new Run(check, "empty");
        String[] names = {"balancer", "exit", "move", "deliver", "lose", "twin", "letter", "token", "about", "settle"};
        while (run.length() < Run.MOST_CALLS - 1) {
            int n = run.length();
            run.call(names[n % names.length], n / names.length % 9 - 2, n / 3 % 8 - 1);
        }
        last(run, "0", "resend", 0, 0);
    }

    private static void twoHundredTokens() {
        Run run = new Run(check, "200 tokens");
        run.call("build", 8, 5);
        for (int t = 0; t < 200; t++) {
            run.call("enter", t % 3, t % 2);
            if (t % 40 == 39) {
                run.call("settle", 100, 0);
            }
        }
        for (int t = 0; t < 200; t++) {
            run.call("token", t, 4);
        }
        while (run.length() < Run.MOST_CALLS - 1) {
            int n = run.length();
            run.call(n % 3 == 0 ? "exit" : n % 3 == 1 ? "balancer" : "enter", n % 8, n % 6);
        }
        last(run, "199", "about", 3, 0);
    }

    private static void sixtyLettersAllTheTime() {
        Run run = new Run(check, "60 letters");
        run.call("build", 4, 2);
        for (int t = 0; t < 40; t++) {
            run.call("enter", t % 4, t % 2);
            run.call("move", t, 0);
        }
        while (run.length() < Run.MOST_CALLS - 4) {
            run.call("twin", run.length() % 60, 0);
            run.call("twin", run.length() % 41, 0);
            run.call("deliver", run.length() % 60, 0);
        }
        while (run.length() < Run.MOST_CALLS - 1) {
            run.call("twin", 0, 0);
        }
        last(run, "60", "letter", -1, 7);
    }

    private static void fortyTokensAllTheTime() {
        Run run = new Run(check, "40 tokens");
        for (int t = 0; t < 40; t++) {
            run.call("enter", 1, t % 2);
        }
        for (int t = 0; run.length() < Run.MOST_CALLS - 8; t++) {
            run.call("move", t, 0);
            run.call("deliver", 0, 0);
            run.call("move", t, 0);
            run.call("enter", 0, 1);
            run.call("move", t, 0);
            run.call("enter", 0, 1);
        }
        while (run.length() < Run.MOST_CALLS - 1) {
            run.call("enter", 1, 0);
        }
        last(run, "40", "about", 2, 0);
    }

    // Each letter that is not lost is of its token's way, however many letters went before.
    private static void manyWays() {
        Run run = new Run(check, "many ways");
        run.call("build", 8, 6);
        run.call("enter", 5, 1);
        while (run.length() < Run.MOST_CALLS - 7) {
            run.call("move", 0, 0);
            run.call("twin", 0, 0);
            run.call("lose", 0, 0);
            run.call("lose", 0, 0);
            run.call("resend", 0, 0);
        }
        while (run.length() < Run.MOST_CALLS - 1) {
            run.call("resend", 0, 0);
        }
        last(run, "1", "deliver", 0, 0);
    }

    private static void settlingAllTheTime() {
        Run run = new Run(check, "settling");
        run.call("build", 8, 6);
        for (int t = 0; t < 40; t++) {
            run.call("enter", t % 8, 1);
        }
        run.call("settle", 13, 0);
        for (int s = 0; s < 6; s++) {
            run.call("station", s, 1);
        }
        while (run.length() < Run.MOST_CALLS - 7) {
            run.call("settle", 100, 0);
        }
        for (int s = 0; s < 6; s++) {
            run.call("station", s, 0);
        }
        last(run, "1", "settle", 100, 0);
    }

    private static void buildingAllTheTime() {
        Run run = new Run(check, "building");
        while (run.length() < Run.MOST_CALLS - 2) {
            int n = run.length();
            run.call("build", 2 << n % 3, n % 7);
            run.call("enter", n % 8, 1);
        }
        run.call("build", 8, 6);
        last(run, "4", "exit", 7, 0);
    }

    private static void stationsUpAndDown() {
        Run run = new Run(check, "stations");
        run.call("build", 8, 6);
        run.call("enter", 0, 0);
        while (run.length() < Run.MOST_CALLS - 6) {
            int n = run.length();
            run.call("station", n % 6, n / 6 % 2);
            run.call("move", 0, 0);
            run.call("deliver", 0, 0);
            run.call("resend", 0, 0);
            run.call("station", n % 6, 1 - n / 6 % 2);
        }
        while (run.length() < Run.MOST_CALLS - 1) {
            run.call("station", 0, run.length() % 2);
        }
        last(run, "8", "about", 0, 0);
    }

    private static void neverFarFromFull(int seed) {
        Random random = new Random(seed);
        Run run = new Run(check, "full, seed " + seed);
        run.call("build", 2 << seed % 3, 1 + seed % 6);
        String[] names = {"enter", "enter", "twin", "twin", "twin", "resend", "move", "move", "deliver", "lose", "move"};
        while (run.length() < Run.MOST_CALLS) {
            String name = names[random.nextInt(names.length)];
            run.call(name, argument(random, run, name), random.nextInt(2));
            if (run.length() == 200) {
                run.askAll();
            }
        }
    }

    private static int argument(Random random, Run run, String name) {
        if (name.equals("enter")) {
            return random.nextInt(run.model.width);
        }
        if (name.equals("move")) {
            return random.nextInt(Math.max(1, run.model.tokens.size()));
        }
        return random.nextInt(Math.max(1, run.model.bag.size()));
    }

    // Each token is brought to its end before the next one comes.
    private static void neverFarFromEmpty(int seed) {
        Random random = new Random(seed);
        Run run = new Run(check, "empty, seed " + seed);
        run.call("build", 2 << seed % 3, 1 + seed % 6);
        while (run.length() < Run.MOST_CALLS) {
            int t = run.model.tokens.size() - 1;
            boolean free = run.model.left() == 0;
            switch (random.nextInt(8)) {
                case 0: run.call("settle", random.nextInt(3), 0); break;
                case 1: run.call("resend", 0, 0); break;
                case 2: run.call("lose", 0, 0); break;
                case 3: run.call("token", t, random.nextInt(5)); break;
                case 4: run.call("about", random.nextInt(6), 0); break;
                case 5: run.call("deliver", 0, 0); break;
                default: run.call(free ? "enter" : "move", free ? 0 : t, random.nextInt(2));
            }
        }
    }
}

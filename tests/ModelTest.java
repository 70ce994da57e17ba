import java.util.List;
import java.util.Random;

/** Runs of mixed calls, right and wrong ones, against a second model that follows the document's words. */
public final class ModelTest {
    private static final int RUNS = 1200;
    private static final int[] WIDTHS = {2, 4, 8};

    private static final Check check = new Check();

    public static void main(String[] args) {
        for (int seed = 0; seed < RUNS && !check.hasFound(); seed++) {
            new ModelTest(seed).run();
        }
        check.end();
    }

    private final Random random;
    private final Run run;
    private final int likesToBuild;
    private final int likesToSettle;
    private final boolean stationsFail;
    private final boolean lettersFail;

    private ModelTest(int seed) {
        random = new Random(seed);
        run = new Run(check, "seed " + seed);
        likesToBuild = random.nextInt(3) == 0 ? 100 : 1000;
        likesToSettle = random.nextInt(3) == 0 ? 25 : 400;
        stationsFail = random.nextBoolean();
        lettersFail = random.nextBoolean();
    }

    private void run() {
        run.call("build", WIDTHS[random.nextInt(3)], 1 + random.nextInt(6));
        while (run.length() < Run.MOST_CALLS && !check.hasFound()) {
            run.call(someCall());
            if (run.length() % 40 == 0 && run.length() < 300) {
                run.askAll();
            }
        }
    }

    private Call someCall() {
        if (random.nextInt(likesToBuild) == 0) {
            int width = random.nextInt(3) == 0 ? random.nextInt(10) : WIDTHS[random.nextInt(3)];
            return new Call("build", width, random.nextInt(8));
        }
        if (random.nextInt(likesToSettle) == 0) {
            return new Call("settle", random.nextInt(12) == 0 ? random.nextInt(140) - 20 : random.nextInt(4), 0);
        }
        String name = someName();
        return new Call(name, firstArgument(name), secondArgument(name));
    }

    private String someName() {
        int n = random.nextInt(100);
        if (n < 18) {
            return "enter";
        }
        if (n < 58) {
            return "move";
        }
        if (n < 78) {
            return "deliver";
        }
        if (n < 84 && lettersFail) {
            return n < 80 ? "lose" : "twin";
        }
        if (n < 88) {
            return "resend";
        }
        if (n < 91 && stationsFail) {
            return "station";
        }
        return new String[] {"balancer", "exit", "letter", "token", "about"}[n % 5];
    }

    private int firstArgument(String name) {
        if (name.equals("move") || name.equals("token")) {
            return someToken();
        }
        int bound = boundOf(name);
        return random.nextInt(20) == 0 ? random.nextInt(bound + 4) - 2 : random.nextInt(Math.max(1, bound));
    }

    private int secondArgument(String name) {
        boolean isFlag = name.equals("enter") || name.equals("station");
        return isFlag ? random.nextInt(2) : random.nextInt(7) - 1;
    }

    private int boundOf(String name) {
        switch (name) {
            case "enter":
            case "exit":
                return run.model.width;
            case "deliver":
            case "lose":
            case "twin":
            case "letter":
                return run.model.bag.size();
            case "station":
                return run.model.stations;
            case "balancer":
                return run.model.balancers.size();
            default:
                return 6;
        }
    }

    private int someToken() {
        List<Integer> left = run.model.tokensLeft();
        if (left.isEmpty() || random.nextInt(15) == 0) {
            return random.nextInt(run.model.tokens.size() + 3) - 1;
        }
        return left.get(random.nextInt(left.size()));
    }
}

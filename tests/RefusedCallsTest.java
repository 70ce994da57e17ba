import java.util.ArrayList;
import java.util.List;

/** "A call that throws changes nothing. Of two exceptions the one that it names first is thrown." */
public final class RefusedCallsTest {
    private static final String ARGUMENT = "throws.IllegalArgumentException";
    private static final String STATE = "throws.IllegalStateException";
    private static final String INDEX = "throws.IndexOutOfBoundsException";

    private static final Check check = new Check();

    public static void main(String[] args) {
        inState(newObject(), 0);
        inState(empty(), 0);
        // Three tokens are done, two are at exit 1, whose station is down.
        inState(inBetween(), 5);
        // No enter, no twin of the first or last letter, no move of the done one or of the 11 that are outside.
        inState(full(), 3 + 12);
        // No move of the 12 tokens, which are at station 0 or left it.
        inState(allDown(), 12);
        // No enter; of the moves every 40th is tried.
        inState(allDone(), 1 + 5);
        check.end();
    }

    private static void inState(Run state, int outOfTime) {
        wrongNetworks(state);
        wrongTokens(state);
        wrongLetters(state);
        wrongNumbers(state);
        callsOutOfTime(state, outOfTime);
    }

    private static Run newObject() {
        return new Run(check, "new object");
    }

    private static Run empty() {
        Run run = new Run(check, "empty");
        run.call("build", 8, 6);
        run.call("station", 5, 1);
        return run;
    }

    /** Tokens in every state, shown and waiting ones, letters of old and new ways, one station down. */
    private static Run inBetween() {
        Run run = new Run(check, "in between");
        run.call("build", 4, 3);
        for (int t = 0; t < 8; t++) {
            run.call("enter", t % 4, t < 6 ? 1 : 0);
        }
        run.call("settle", 7, 0);
        run.call("move", 0, 0);
        for (int t = 8; t < 12; t++) {
            run.call("enter", 0, t % 2);
        }
        run.call("move", 8, 0);
        run.call("twin", 0, 0);
        run.call("deliver", 0, 0);
        run.call("move", 8, 0);
        run.call("move", 9, 0);
        run.call("lose", 1, 0);
        run.call("move", 8, 0);
        run.call("move", 10, 0);
        run.call("station", 1, 1);
        return run;
    }

    /** 40 tokens that are not done, 60 letters, a done token that waits for its number to be shown. */
    private static Run full() {
        Run run = new Run(check, "full");
        run.call("build", 2, 2);
        run.call("enter", 0, 0);
        run.call("enter", 0, 1);
        run.call("settle", 2, 0);
        run.call("move", 1, 0);
        run.call("twin", 0, 0);
        run.call("deliver", 0, 0);
        run.call("move", 1, 0);
        for (int t = 0; t < 39; t++) {
            run.call("enter", t % 2, t % 2);
        }
        for (int t = 2; t < 30; t++) {
            run.call("move", t, 0);
        }
        for (int n = 0; n < 4; n++) {
            run.call("deliver", 1, 0);
        }
        while (run.model.bag.size() < 60) {
            run.call("twin", run.model.bag.size() % 5, 0);
        }
        return run;
    }

    private static Run allDown() {
        Run run = new Run(check, "all down");
        run.call("build", 4, 2);
        for (int t = 0; t < 12; t++) {
            run.call("enter", t % 4, 1);
        }
        run.call("settle", 1, 0);
        for (int t = 0; t < 6; t++) {
            run.call("move", t, 0);
            run.call("move", t % 3, 0);
        }
        run.call("station", 0, 1);
        run.call("station", 1, 1);
        return run;
    }

    private static Run allDone() {
        Run run = new Run(check, "all done");
        for (int t = 0; t < 200; t++) {
            run.call("enter", t % 2, 1);
            if (t % 40 == 39) {
                run.call("settle", 3, 0);
            }
        }
        return run;
    }

    private static void refused(Run state, String want, String name, int a, int b) {
        for (int after = 0; after < 4; after++) {
            Run run = state.again();
            String due = run.call(name, a, b);
            if (!due.equals(want)) {
                check.report("the model's " + new Call(name, a, b), due, want);
            }
            goOn(run, after);
            run.askAll();
        }
    }

    // Some of the state is seen only in what comes later: ways, stations that are down, who is ordered.
    private static void goOn(Run run, int after) {
        switch (after) {
            case 0:
                break;
            case 1:
                run.call("settle", 2, 0);
                break;
            case 2:
                run.call("enter", 0, 1);
                run.call("lose", 0, 0);
                run.call("resend", 0, 0);
                run.call("deliver", 1, 0);
                break;
            default:
                for (int s = 0; s < run.model.stations; s++) {
                    run.call("station", s, 0);
                }
                run.call("settle", 1, 0);
                run.call("resend", 0, 0);
                run.call("settle", 3, 0);
        }
    }

    private static void wrongNetworks(Run state) {
        refused(state, ARGUMENT, "build", 3, 1);
        refused(state, ARGUMENT, "build", 0, 6);
        refused(state, ARGUMENT, "build", 8, 0);
        refused(state, ARGUMENT, "build", 4, 7);
        refused(state, ARGUMENT, "build", 16, -1);
        int balancers = state.model.balancers.size();
        refused(state, INDEX, "balancer", -1, 0);
        refused(state, INDEX, "balancer", balancers, 5);
        refused(state, ARGUMENT, "balancer", balancers - 1, 5);
        refused(state, ARGUMENT, "balancer", 0, -1);
        int width = state.model.width;
        refused(state, INDEX, "exit", -1, 0);
        refused(state, INDEX, "exit", width, 3);
        refused(state, ARGUMENT, "exit", width - 1, 3);
        refused(state, ARGUMENT, "exit", 0, -1);
        refused(state, ARGUMENT, "station", -1, 1);
        refused(state, ARGUMENT, "station", state.model.stations, 1);
        refused(state, ARGUMENT, "station", state.model.stations, 0);
    }

    private static void wrongTokens(Run state) {
        int entered = state.model.tokens.size();
        refused(state, ARGUMENT, "enter", -1, 0);
        refused(state, ARGUMENT, "enter", state.model.width, 1);
        refused(state, ARGUMENT, "move", -1, 0);
        refused(state, ARGUMENT, "move", entered, 0);
        refused(state, ARGUMENT, "token", -1, 0);
        refused(state, ARGUMENT, "token", entered, 0);
        refused(state, ARGUMENT, "token", entered, 5);
        refused(state, ARGUMENT, "token", 0, 5);
        refused(state, ARGUMENT, "token", entered - 1, -1);
    }

    private static void wrongLetters(Run state) {
        int letters = state.model.bag.size();
        for (String name : new String[] {"deliver", "lose", "twin"}) {
            refused(state, INDEX, name, -1, 0);
            refused(state, INDEX, name, letters, 0);
            refused(state, INDEX, name, 60, 0);
        }
        refused(state, INDEX, "letter", -2, 0);
        refused(state, INDEX, "letter", letters, 1);
        refused(state, INDEX, "letter", letters, 2);
        if (letters > 0) {
            refused(state, ARGUMENT, "letter", letters - 1, 2);
            refused(state, ARGUMENT, "letter", 0, -1);
        }
    }

    private static void wrongNumbers(Run state) {
        refused(state, ARGUMENT, "about", -1, 0);
        refused(state, ARGUMENT, "about", 6, 0);
        refused(state, ARGUMENT, "settle", -1, 0);
        refused(state, ARGUMENT, "settle", 101, 0);
    }

    private static void callsOutOfTime(Run state, int want) {
        int found = 0;
        for (Call call : callsThatMayBeOutOfTime(state.model)) {
            if (state.again().call(call).equals(STATE)) {
                refused(state, STATE, call.name(), call.a(), call.b());
                found++;
            }
        }
        check.same("calls out of time in " + state.title, want, found);
    }

    private static List<Call> callsThatMayBeOutOfTime(Model model) {
        List<Call> some = new ArrayList<>();
        some.add(new Call("enter", 0, 1));
        some.add(new Call("twin", 0, 0));
        some.add(new Call("twin", model.bag.size() - 1, 0));
        for (int t = 0; t < model.tokens.size(); t += model.tokens.size() > 100 ? 40 : 1) {
            some.add(new Call("move", t, 0));
        }
        return some;
    }
}

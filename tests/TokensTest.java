/** Promises 5, 6, 13 and 14: enter, move, token, about. */
public final class TokensTest {
    private static final Check check = new Check();

    public static void main(String[] args) {
        enterNumbersTokens();
        enterRefusesWires();
        enterRefusesBeyondForty();
        enterRefusesBeyondTwoHundred();
        moveAnswers();
        moveGoesOnAtTheSameStation();
        moveRefuses();
        moveAtADownStation();
        moveWhenTheBagIsFull();
        nextIsBehindTheLastPassed();
        numbersByExit();
        tokenTells();
        tokenRefuses();
        orderedTokensWait();
        orderedTokensWaitForLaterExits();
        aboutTells();
        aboutRefuses();
        check.end();
    }

    private static void enterNumbersTokens() {
        CountingNetwork x = Check.network(4, 3);
        for (int t = 0; t < 8; t++) {
            check.same("enter", t, x.enter(t % 4, t % 2 == 0));
            check.same("its wire", t % 4, x.token(t, 0));
            check.same("its station", CountingNetwork.NONE, x.token(t, 1));
            check.same("what it is", 0, x.token(t, 2));
            check.same("what it passed", 0, x.token(t, 3));
            check.same("its number", CountingNetwork.NONE, x.token(t, 4));
        }
        x.build(4, 3);
        check.same("enter after build", 0, x.enter(3, false));
    }

    private static void enterRefusesWires() {
        for (int width : new int[] {2, 4, 8}) {
            CountingNetwork x = Check.network(width, 1);
            for (int wire : new int[] {Integer.MIN_VALUE, -1, width, Integer.MAX_VALUE}) {
                check.refused("enter(" + wire + ")", IllegalArgumentException.class, () -> x.enter(wire, true));
            }
            check.same("no token came", 0, x.about(1));
            check.same("the last wire is one", 0, x.enter(width - 1, true));
        }
    }

    private static void enterRefusesBeyondForty() {
        CountingNetwork x = Check.network(2, 1);
        for (int t = 0; t < 40; t++) {
            check.same("enter", t, x.enter(0, false));
        }
        int[] before = Check.stateOf(x);
        check.refused("enter the 41st", IllegalStateException.class, () -> x.enter(0, false));
        check.refused("enter the 41st on no wire", IllegalArgumentException.class, () -> x.enter(2, false));
        check.row("a refused enter changes nothing", before, Check.stateOf(x));
        x.move(7);
        x.deliver(0);
        x.move(7);
        check.refused("enter with 40 not done", IllegalStateException.class, () -> x.enter(0, false));
        check.same("one is done", 1, x.move(7));
        check.same("enter then", 40, x.enter(1, true));
        check.refused("enter again", IllegalStateException.class, () -> x.enter(0, false));
    }

    private static void enterRefusesBeyondTwoHundred() {
        CountingNetwork x = Check.network(8, 6);
        for (int t = 0; t < 200; t++) {
            check.same("enter", t, x.enter(t % 3, true));
            if (t % 40 == 39) {
                check.same("settle", 14, x.settle(100));
            }
        }
        check.same("highest", 199, x.about(3));
        check.same("missing", 0, x.about(4));
        check.same("not done", 0, x.about(2));
        check.refused("enter the 201st", IllegalStateException.class, () -> x.enter(0, true));
        check.refused("enter the 201st on no wire", IllegalArgumentException.class, () -> x.enter(-1, true));
        check.same("entered", 200, x.about(1));
        x.build(2, 1);
        check.same("enter after build", 0, x.enter(0, true));
    }

    private static void moveAnswers() {
        CountingNetwork x = Check.network(2, 2);
        x.enter(1, false);
        x.enter(1, false);
        check.same("move 0: a letter", 2, x.move(0));
        check.same("its station", 0, x.letter(0, 1));
        check.same("its token", 0, x.letter(0, 0));
        check.same("move 0: under way", 3, x.move(0));
        check.same("no second letter", 1, x.letter(-1, 0));
        check.same("move 1: a letter", 2, x.move(1));
        x.deliver(1);
        x.deliver(0);
        check.same("move 1: through", 0, x.move(1));
        check.same("it came first: upper", 0, x.token(1, 0));
        check.same("move 0: through", 0, x.move(0));
        check.same("it came second: lower", 1, x.token(0, 0));
        check.same("move 1: done", 1, x.move(1));
        check.same("move 0: a letter to the exit", 2, x.move(0));
        check.same("the exit's station", 1, x.letter(0, 1));
        x.deliver(0);
        check.same("move 0: done", 1, x.move(0));
        check.same("number of 0", 1, x.token(0, 4));
        check.same("number of 1", 0, x.token(1, 4));
    }

    private static void moveGoesOnAtTheSameStation() {
        CountingNetwork x = Check.network(8, 1);
        x.enter(5, false);
        check.same("a letter", 2, x.move(0));
        x.deliver(0);
        for (int k = 1; k <= 6; k++) {
            check.same("through", 0, x.move(0));
            check.same("passed", k, x.token(0, 3));
        }
        check.same("done", 1, x.move(0));
        check.same("number", 0, x.token(0, 4));
        check.same("no letters", 0, x.letter(-1, 0));
    }

    private static void moveRefuses() {
        CountingNetwork x = Check.network(2, 1);
        x.enter(0, false);
        for (int t : new int[] {Integer.MIN_VALUE, -1, 1, 200, Integer.MAX_VALUE}) {
            check.refused("move(" + t + ")", IllegalArgumentException.class, () -> x.move(t));
        }
        x.settle(9);
        int[] before = Check.stateOf(x);
        check.refused("move of a done token", IllegalStateException.class, () -> x.move(0));
        check.row("a refused move changes nothing", before, Check.stateOf(x));
    }

    private static void moveAtADownStation() {
        CountingNetwork x = Check.network(4, 2);
        x.enter(0, false);
        x.station(0, true);
        check.same("from outside a letter is posted to a down station", 2, x.move(0));
        check.same("under way from nowhere", 3, x.move(0));
        x.station(0, false);
        x.deliver(0);
        x.station(0, true);
        int[] before = Check.stateOf(x);
        check.refused("move through at a down station", IllegalStateException.class, () -> x.move(0));
        check.row("a refused move changes nothing", before, Check.stateOf(x));
        x.station(0, false);
        check.same("move through", 0, x.move(0));
        x.station(0, true);
        check.refused("post from a down station", IllegalStateException.class, () -> x.move(0));
        check.same("no letter", 0, x.letter(-1, 0));
        x.station(0, false);
        x.station(1, true);
        check.same("post to a down station", 2, x.move(0));
        check.same("under way", 3, x.move(0));
        // Its station is the one that it left, while it is under way.
        x.station(0, true);
        check.refused("under way from a down station", IllegalStateException.class, () -> x.move(0));
        x.station(1, false);
        check.same("deliver", 1, x.deliver(0));
        check.same("its new station is up", 0, x.move(0));
    }

    private static void moveWhenTheBagIsFull() {
        CountingNetwork x = Check.network(4, 2);
        x.enter(0, false);
        x.enter(1, false);
        x.enter(2, false);
        x.move(0);
        x.move(2);
        x.deliver(1);
        while (x.letter(-1, 0) < 60) {
            x.twin(0);
        }
        int[] before = Check.stateOf(x);
        check.refused("a letter is needed", IllegalStateException.class, () -> x.move(1));
        check.row("a refused move changes nothing", before, Check.stateOf(x));
        check.same("under way needs none", 3, x.move(0));
        check.same("going through needs none", 0, x.move(2));
        check.refused("the next needs one", IllegalStateException.class, () -> x.move(2));
        x.lose(59);
        check.same("there is room", 2, x.move(1));
        check.same("it is the last", 1, x.letter(59, 0));
        check.refused("full again", IllegalStateException.class, () -> x.move(2));
    }

    // Wires are crossed again and again, so a token must never turn back to a balancer laid before its last.
    private static void nextIsBehindTheLastPassed() {
        for (int wire = 0; wire < 8; wire++) {
            CountingNetwork x = Check.network(8, 6);
            x.enter(wire, false);
            x.enter(wire, false);
            for (int column = 0; column < 6; column++) {
                for (int t = 0; t < 2; t++) {
                    check.same("post", 2, x.move(t));
                    check.same("station is the column", column, x.letter(0, 1));
                    check.same("deliver", 1, x.deliver(0));
                    check.same("through", 0, x.move(t));
                    check.same("passed", column + 1, x.token(t, 3));
                }
            }
            int had = 0;
            for (int b = 0; b < 24; b++) {
                had += x.balancer(b, 4);
            }
            check.same("all that balancers had", 12, had);
        }
    }

    private static void numbersByExit() {
        CountingNetwork x = Check.network(4, 1);
        boolean[] seen = new boolean[30];
        for (int t = 0; t < 30; t++) {
            x.enter(2, false);
        }
        x.settle(10);
        for (int t = 0; t < 30; t++) {
            int number = x.token(t, 4);
            check.same("number " + number + " is new", 1, number >= 0 && number < 30 && !seen[number] ? 1 : 0);
            seen[Math.floorMod(number, 30)] = true;
            check.same("the exit's wire", x.exit(number % 4, 0), x.token(t, 0));
        }
    }

    private static void tokenTells() {
        CountingNetwork x = Check.network(4, 3);
        x.enter(3, false);
        check.row("entered", new int[] {3, -1, 0, 0, -1}, told(x, 0));
        x.move(0);
        check.row("under way from outside", new int[] {3, -1, 1, 0, -1}, told(x, 0));
        x.deliver(0);
        check.row("at station 0", new int[] {3, 0, 0, 0, -1}, told(x, 0));
        x.move(0);
        check.row("through balancer 1", new int[] {2, 0, 0, 1, -1}, told(x, 0));
        x.move(0);
        check.row("under way from station 0", new int[] {2, 0, 1, 1, -1}, told(x, 0));
        x.deliver(0);
        x.move(0);
        check.row("through balancer 3", new int[] {1, 1, 0, 2, -1}, told(x, 0));
        x.move(0);
        x.deliver(0);
        x.move(0);
        check.row("through balancer 4", new int[] {0, 2, 0, 3, -1}, told(x, 0));
        x.move(0);
        check.row("under way to exit 0", new int[] {0, 2, 1, 3, -1}, told(x, 0));
        x.deliver(0);
        check.row("at exit 0", new int[] {0, 0, 0, 3, -1}, told(x, 0));
        x.move(0);
        check.row("done", new int[] {0, 0, 2, 3, 0}, told(x, 0));
    }

    private static int[] told(CountingNetwork x, int t) {
        int[] told = new int[5];
        for (int what = 0; what < 5; what++) {
            told[what] = x.token(t, what);
        }
        return told;
    }

    private static void tokenRefuses() {
        CountingNetwork x = Check.network(4, 3);
        check.refused("token(0, 0) of none", IllegalArgumentException.class, () -> x.token(0, 0));
        x.enter(0, true);
        for (int t : new int[] {Integer.MIN_VALUE, -1, 1, 200, Integer.MAX_VALUE}) {
            check.refused("token(" + t + ", 0)", IllegalArgumentException.class, () -> x.token(t, 0));
        }
        for (int what : new int[] {Integer.MIN_VALUE, -1, 5, Integer.MAX_VALUE}) {
            check.refused("token(0, " + what + ")", IllegalArgumentException.class, () -> x.token(0, what));
        }
    }

    private static void orderedTokensWait() {
        CountingNetwork x = Check.network(2, 1);
        for (int t = 0; t < 6; t++) {
            x.enter(0, t != 3);
        }
        x.settle(1);
        for (int t = 0; t < 6; t++) {
            x.move(t);
        }
        x.move(3);
        check.same("3 is not ordered: shown at once", 1, x.token(3, 4));
        x.move(1);
        check.same("1 got 3 and waits", CountingNetwork.NONE, x.token(1, 4));
        check.same("1 is done", 2, x.token(1, 2));
        x.move(0);
        check.same("0 got 0", 0, x.token(0, 4));
        check.same("1 waits for 2", CountingNetwork.NONE, x.token(1, 4));
        x.move(5);
        check.same("5 got 5 and waits", CountingNetwork.NONE, x.token(5, 4));
        x.move(4);
        check.same("4 got 2", 2, x.token(4, 4));
        check.same("1 is shown", 3, x.token(1, 4));
        check.same("5 waits for 4", CountingNetwork.NONE, x.token(5, 4));
        x.move(2);
        check.same("2 got 4", 4, x.token(2, 4));
        check.same("5 is shown", 5, x.token(5, 4));
    }

    // An exit may run ahead of one behind it as well as of one before it.
    private static void orderedTokensWaitForLaterExits() {
        CountingNetwork x = Check.network(2, 1);
        for (int t = 0; t < 3; t++) {
            x.enter(1, true);
        }
        x.settle(2);
        x.move(0);
        check.same("0 is the highest", 0, x.about(3));
        check.same("none below is missing", 0, x.about(4));
        x.move(2);
        check.same("2 is the highest", 2, x.about(3));
        check.same("1 is missing", 1, x.about(4));
        check.same("0 is shown", 0, x.token(0, 4));
        check.same("2 waits for 1", CountingNetwork.NONE, x.token(2, 4));
        x.move(1);
        check.same("2 is shown", 2, x.token(2, 4));
        check.same("none is missing", 0, x.about(4));
    }

    private static void aboutTells() {
        CountingNetwork x = Check.network(4, 1);
        check.row("built", new int[] {4, 0, 0, -1, 0, 3}, toldAbout(x));
        for (int t = 0; t < 6; t++) {
            x.enter(0, true);
        }
        check.row("entered", new int[] {4, 6, 6, -1, 0, 3}, toldAbout(x));
        x.settle(4);
        check.row("before the exits", new int[] {4, 6, 6, -1, 0, 3}, toldAbout(x));
        int last = tokenOnTheWireOf(x, 3);
        x.move(last);
        check.row("3 alone", new int[] {4, 6, 5, 3, 3, 3}, toldAbout(x));
        x.settle(1);
        check.row("all", new int[] {4, 6, 0, 5, 0, 3}, toldAbout(x));
        x.build(8, 2);
        check.row("built anew", new int[] {8, 0, 0, -1, 0, 6}, toldAbout(x));
        x.build(2, 2);
        check.row("built anew", new int[] {2, 0, 0, -1, 0, 1}, toldAbout(x));
    }

    private static int tokenOnTheWireOf(CountingNetwork x, int exit) {
        int t = 0;
        while (x.token(t, 0) != x.exit(exit, 0)) {
            t++;
        }
        return t;
    }

    private static int[] toldAbout(CountingNetwork x) {
        int[] told = new int[6];
        for (int what = 0; what < 6; what++) {
            told[what] = x.about(what);
        }
        return told;
    }

    private static void aboutRefuses() {
        CountingNetwork x = new CountingNetwork();
        for (int what : new int[] {Integer.MIN_VALUE, -1, 6, Integer.MAX_VALUE}) {
            check.refused("about(" + what + ")", IllegalArgumentException.class, () -> x.about(what));
        }
    }
}

/** The edges of promises 1 to 4 and 12: a test for each sentence of the document that names one. */
public final class NetworkEdgesTest {
    private static final int MIN = Integer.MIN_VALUE;
    private static final int MAX = Integer.MAX_VALUE;

    private static final Check check = new Check();

    public static void main(String[] args) {
        widthIsTwoFourOrEight();
        wiresEndBelowTheWidth();
        stationsAreOneToSix();
        buildRefusesBothAtOnce();
        newObjectIsOfTheLeastSize();
        buildLetsCountsGo();
        buildLetsTokensGo();
        buildLetsLettersGo();
        buildPutsStationsUp();
        buildAgainAfterAFullOne();
        thereIsNoSuchBalancer();
        anotherWhatOfABalancer();
        balancersTakeTurnsAgainAndAgain();
        thereIsNoSuchExit();
        anotherWhatOfAnExit();
        stationsWrapAround();
        thereIsNoSuchStation();
        check.end();
    }

    // "A NETWORK has a WIDTH w of 2, 4 or 8"; "IllegalArgumentException if width or stations are not as they must be."
    private static void widthIsTwoFourOrEight() {
        CountingNetwork x = new CountingNetwork();
        for (int width = -9; width <= 33; width++) {
            buildOfWidth(x, width);
        }
        buildOfWidth(x, 4);
        buildOfWidth(x, 2);
        for (int width : new int[] {MIN, MIN + 2, MIN + 4, MIN + 8, 64, 256, 258, 65538, 1 << 30, MAX - 1, MAX}) {
            buildOfWidth(x, width);
        }
    }

    private static void buildOfWidth(CountingNetwork x, int width) {
        int balancers = width == 2 ? 1 : width == 4 ? 6 : width == 8 ? 24 : 0;
        int before = x.about(0);
        if (balancers == 0) {
            check.refused("build(" + width + ", 1)", Check.ARGUMENT, () -> x.build(width, 1));
            check.same("the width after a refused build", before, x.about(0));
        } else {
            check.same("build(" + width + ", 1)", balancers, x.build(width, 1));
            check.same("the width", width, x.about(0));
            check.same("what each token passes", width == 2 ? 1 : width == 4 ? 3 : 6, x.about(5));
        }
    }

    // "that many WIRES 0 .. w - 1"
    private static void wiresEndBelowTheWidth() {
        for (int width = 2; width <= 8; width *= 2) {
            CountingNetwork x = Check.network(width, 6);
            boolean[] isExit = new boolean[width];
            for (int i = 0; i < width; i++) {
                isExit[x.exit(i, 0)] = true;
                check.same("enter(" + i + ")", i, x.enter(i, false));
            }
            for (int wire = 0; wire < width; wire++) {
                check.same("wire " + wire + " has an exit", 1, isExit[wire] ? 1 : 0);
            }
            int beyond = width;
            check.refused("enter(" + width + ")", Check.ARGUMENT, () -> x.enter(beyond, false));
            check.refused("enter(-1)", Check.ARGUMENT, () -> x.enter(-1, false));
        }
    }

    // "There are 1 .. 6 STATIONS"
    private static void stationsAreOneToSix() {
        for (int width = 2; width <= 8; width *= 2) {
            CountingNetwork x = new CountingNetwork();
            for (int stations = -3; stations <= 10; stations++) {
                buildOfStations(x, width, stations);
            }
            for (int stations : new int[] {MIN, MIN + 1, MIN + 6, 256, 257, 65537, MAX - 1, MAX}) {
                buildOfStations(x, width, stations);
            }
        }
    }

    private static void buildOfStations(CountingNetwork x, int width, int stations) {
        if (stations < 1 || stations > 6) {
            check.refused("build(.., " + stations + ")", Check.ARGUMENT, () -> x.build(width, stations));
            return;
        }
        check.same("build(.., " + stations + ")", width == 2 ? 1 : width == 4 ? 6 : 24, x.build(width, stations));
        x.station(stations - 1, true);
        check.refusedDeed("station(" + stations + ")", Check.ARGUMENT, () -> x.station(stations, true));
    }

    private static void buildRefusesBothAtOnce() {
        CountingNetwork x = new CountingNetwork();
        check.refused("build(0, 0)", Check.ARGUMENT, () -> x.build(0, 0));
        check.refused("build(3, 7)", Check.ARGUMENT, () -> x.build(3, 7));
        check.refused("build(-1, -1)", Check.ARGUMENT, () -> x.build(-1, -1));
        check.refused("build(6, 8)", Check.ARGUMENT, () -> x.build(6, 8));
    }

    // "A network of width 2, one station; no tokens, no letters."
    private static void newObjectIsOfTheLeastSize() {
        CountingNetwork x = new CountingNetwork();
        check.same("its width", 2, x.about(0));
        check.same("its tokens", 0, x.about(1));
        check.same("its letters", 0, x.letter(-1, 0));
        check.refused("token(0, 0)", Check.ARGUMENT, () -> x.token(0, 0));
        check.refused("deliver(0)", Check.INDEX, () -> x.deliver(0));
        check.refused("balancer(1, 0)", Check.INDEX, () -> x.balancer(1, 0));
        check.refused("exit(2, 0)", Check.INDEX, () -> x.exit(2, 0));
        x.station(0, false);
        check.refusedDeed("station(1, false)", Check.ARGUMENT, () -> x.station(1, false));
        check.same("one balancer", 1, x.build(2, 1));
    }

    // "all counts .. go": of balancers, of exits, of tokens, of numbers.
    private static void buildLetsCountsGo() {
        CountingNetwork x = new CountingNetwork();
        x.build(8, 6);
        for (int t = 0; t < 40; t++) {
            x.enter(t % 8, true);
        }
        x.settle(100);
        check.same("balancer 23 had tokens", 10, x.balancer(23, 4));
        check.same("exit 7 handed numbers out", 5, x.exit(7, 2));
        check.same("the highest", 39, x.about(3));
        x.build(8, 6);
        for (int b = 0; b < 24; b++) {
            check.same("balancer(" + b + ", 4)", 0, x.balancer(b, 4));
        }
        for (int i = 0; i < 8; i++) {
            check.same("exit(" + i + ", 2)", 0, x.exit(i, 2));
        }
        check.same("entered", 0, x.about(1));
        check.same("not done", 0, x.about(2));
        check.same("highest", CountingNetwork.NONE, x.about(3));
        check.same("missing", 0, x.about(4));
        x.enter(0, true);
        x.settle(100);
        check.same("numbers begin anew", 0, x.token(0, 4));
        check.same("balancers begin anew", 0, x.token(0, 0));
    }

    private static void buildLetsTokensGo() {
        CountingNetwork x = new CountingNetwork();
        for (int t = 0; t < 40; t++) {
            x.enter(0, true);
        }
        x.settle(2);
        x.build(2, 2);
        for (int t = 0; t < 40; t++) {
            check.same("enter anew", t, x.enter(1, false));
            check.same("it passed none", 0, x.token(t, 3));
            x.move(t);
        }
        check.refused("enter the 41st", Check.STATE, () -> x.enter(0, true));
        x.build(2, 1);
        for (int t : new int[] {0, 39}) {
            check.refused("token(" + t + ", 0)", Check.ARGUMENT, () -> x.token(t, 0));
            check.refused("move(" + t + ")", Check.ARGUMENT, () -> x.move(t));
        }
        check.same("settle finds none", 0, x.settle(100));
        check.same("resend finds none", 0, x.resend());
        for (int t = 0; t < 40; t++) {
            check.same("enter anew", t, x.enter(1, false));
            check.same("it is not under way", 0, x.token(t, 2));
            check.same("it is nowhere", CountingNetwork.NONE, x.token(t, 1));
            check.same("resend finds none", 0, x.resend());
        }
    }

    private static void buildLetsLettersGo() {
        CountingNetwork x = new CountingNetwork();
        x.enter(0, true);
        x.move(0);
        for (int n = 1; n < 60; n++) {
            x.twin(0);
        }
        check.same("60 letters", 60, x.letter(-1, 0));
        x.build(2, 1);
        check.same("no letters", 0, x.letter(-1, 0));
        check.refused("deliver(0)", Check.INDEX, () -> x.deliver(0));
        check.refusedDeed("lose(0)", Check.INDEX, () -> x.lose(0));
        check.refusedDeed("twin(0)", Check.INDEX, () -> x.twin(0));
        x.enter(0, true);
        check.same("there is room", 2, x.move(0));
        check.same("one letter", 1, x.letter(-1, 0));
        check.same("it brings the token", 1, x.deliver(0));
    }

    private static void buildPutsStationsUp() {
        CountingNetwork x = Check.network(8, 6);
        for (int s = 0; s < 6; s++) {
            x.station(s, true);
        }
        x.build(8, 6);
        walkThroughAllStations(x);
        for (int s = 0; s < 6; s++) {
            x.station(s, true);
        }
        // A station that the smaller network does not have must not be down when it is there again.
        x.build(2, 1);
        x.build(8, 6);
        walkThroughAllStations(x);
    }

    private static void walkThroughAllStations(CountingNetwork x) {
        x.enter(0, false);
        for (int column = 0; column < 6; column++) {
            check.same("a letter", 2, x.move(0));
            check.same("to station " + column, column, x.letter(0, 1));
            check.same("station " + column + " is up: deliver", 1, x.deliver(0));
            check.same("station " + column + " is up: move", 0, x.move(0));
        }
    }

    private static void buildAgainAfterAFullOne() {
        CountingNetwork x = Check.network(4, 3);
        for (int t = 0; t < 200; t++) {
            x.enter(t % 4, true);
            if (t % 40 == 39) {
                x.settle(100);
            }
        }
        check.refused("enter the 201st", Check.STATE, () -> x.enter(0, true));
        check.same("build", 6, x.build(4, 3));
        for (int t = 0; t < 40; t++) {
            check.same("enter anew", t, x.enter(0, false));
        }
        check.same("settle anew", 8, x.settle(100));
        check.same("highest", 39, x.about(3));
        check.same("a refused build leaves that", 39, highestAfterARefusedBuild(x));
    }

    private static int highestAfterARefusedBuild(CountingNetwork x) {
        check.refused("build(4, 0)", Check.ARGUMENT, () -> x.build(4, 0));
        return x.about(3);
    }

    // Promise 3: "IndexOutOfBoundsException if there is none such"
    private static void thereIsNoSuchBalancer() {
        int[] counts = {1, 6, 24};
        for (int n = 0; n < 3; n++) {
            int count = counts[n];
            CountingNetwork x = Check.network(2 << n, 1);
            for (int b : new int[] {MIN, -count, -2, -1, count, count + 1, 24, 25, 100, MAX}) {
                for (int what : new int[] {0, 4, 5, -1}) {
                    check.refused("balancer(" + b + ", " + what + ")", Check.INDEX, () -> x.balancer(b, what));
                }
            }
            for (int b = 0; b < count; b++) {
                check.same("balancer(" + b + ", 4)", 0, x.balancer(b, 4));
            }
        }
    }

    // Promise 3: "IllegalArgumentException for another what."
    private static void anotherWhatOfABalancer() {
        CountingNetwork x = Check.network(8, 4);
        for (int b : new int[] {0, 23}) {
            for (int what : new int[] {MIN, -2, -1, 5, 6, MAX}) {
                check.refused("balancer(" + b + ", " + what + ")", Check.ARGUMENT, () -> x.balancer(b, what));
            }
        }
        int[] last = {5, 4, 5, 1, 0};
        for (int what = 0; what <= 4; what++) {
            check.same("balancer(23, " + what + ")", last[what], x.balancer(23, what));
        }
    }

    // "tokens that come to it go out on the upper one, the lower one, the upper one, .. by turns"
    private static void balancersTakeTurnsAgainAndAgain() {
        CountingNetwork x = new CountingNetwork();
        for (int t = 0; t < 100; t++) {
            x.enter(1, false);
            x.settle(2);
            check.same("token " + t + " goes out", t % 2, x.token(t, 0));
            check.same("had", t + 1, x.balancer(0, 4));
            x.settle(1);
        }
    }

    // Promise 4: "IndexOutOfBoundsException if there is none such"
    private static void thereIsNoSuchExit() {
        for (int width = 2; width <= 8; width *= 2) {
            CountingNetwork x = Check.network(width, 1);
            for (int i : new int[] {MIN, -width, -2, -1, width, width + 1, 8, 9, 100, MAX}) {
                for (int what : new int[] {0, 2, 3, -1}) {
                    check.refused("exit(" + i + ", " + what + ")", Check.INDEX, () -> x.exit(i, what));
                }
            }
            for (int i = 0; i < width; i++) {
                check.same("exit(" + i + ", 2)", 0, x.exit(i, 2));
            }
        }
    }

    // Promise 4: "IllegalArgumentException for another what."
    private static void anotherWhatOfAnExit() {
        CountingNetwork x = Check.network(8, 4);
        for (int i : new int[] {0, 7}) {
            for (int what : new int[] {MIN, -2, -1, 3, 4, MAX}) {
                check.refused("exit(" + i + ", " + what + ")", Check.ARGUMENT, () -> x.exit(i, what));
            }
        }
        check.same("exit(7, 0)", 4, x.exit(7, 0));
        check.same("exit(7, 1)", 3, x.exit(7, 1));
        check.same("exit(7, 2)", 0, x.exit(7, 2));
    }

    // "A balancer is at station column mod their number, exit i at station i mod their number."
    private static void stationsWrapAround() {
        // Balancer 20 is of column 5; exit 6 and column 5 are the first ones that 6 and 5 stations do not hold.
        int[] ofColumnFive = {0, 1, 2, 1, 0, 5};
        int[] ofExitSix = {0, 0, 0, 2, 1, 0};
        int[] ofExitSeven = {0, 1, 1, 3, 2, 1};
        for (int stations = 1; stations <= 6; stations++) {
            CountingNetwork x = Check.network(8, stations);
            check.same("column", 5, x.balancer(20, 2));
            check.same("balancer(20, 3)", ofColumnFive[stations - 1], x.balancer(20, 3));
            check.same("balancer(0, 3)", 0, x.balancer(0, 3));
            check.same("exit(0, 1)", 0, x.exit(0, 1));
            check.same("exit(6, 1)", ofExitSix[stations - 1], x.exit(6, 1));
            check.same("exit(7, 1)", ofExitSeven[stations - 1], x.exit(7, 1));
        }
    }

    // Promise 12: "IllegalArgumentException if there is none such."
    private static void thereIsNoSuchStation() {
        for (int stations = 1; stations <= 6; stations++) {
            CountingNetwork x = Check.network(8, stations);
            x.enter(0, false);
            for (int s : new int[] {MIN, -6, -1, stations, stations + 1, 6, 7, 100, MAX}) {
                check.refusedDeed("station(" + s + ", true)", Check.ARGUMENT, () -> x.station(s, true));
                check.refusedDeed("station(" + s + ", false)", Check.ARGUMENT, () -> x.station(s, false));
            }
            for (int s = 0; s < stations; s++) {
                x.station(s, true);
                x.station(s, false);
            }
            check.same("all are up", 1, x.settle(100) < 15 ? 1 : 0);
            x.station(stations - 1, true);
            check.same("the last one stops tokens", 1, tokensStopAt(x, stations) ? 1 : 0);
        }
    }

    private static boolean tokensStopAt(CountingNetwork x, int stations) {
        x.enter(0, false);
        return x.settle(100) == 100 && x.token(1, 3) == stations - 1;
    }
}

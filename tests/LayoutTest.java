/** Promises 1 to 4: a new object, build, balancer, exit. */
public final class LayoutTest {
    private static final Check check = new Check();

    public static void main(String[] args) {
        newObject();
        buildAnswers();
        buildClearsAll();
        buildRefuses();
        widthTwo();
        widthFour();
        widthEight();
        stationsOfBalancersAndExits();
        tokensHad();
        balancerRefuses();
        exitRefuses();
        numbersHandedOut();
        check.end();
    }

    private static void newObject() {
        CountingNetwork x = new CountingNetwork();
        check.same("new: about(0)", 2, x.about(0));
        check.same("new: about(1)", 0, x.about(1));
        check.same("new: about(2)", 0, x.about(2));
        check.same("new: about(3)", CountingNetwork.NONE, x.about(3));
        check.same("new: about(4)", 0, x.about(4));
        check.same("new: about(5)", 1, x.about(5));
        check.same("new: letters", 0, x.letter(-1, 0));
        x.station(0, false);
        check.refusedDeed("new: station(1)", IllegalArgumentException.class, () -> x.station(1, true));
        check.refused("new: move(0)", IllegalArgumentException.class, () -> x.move(0));
        check.row("new is as build(2, 1)", Check.stateOf(Check.network(2, 1)), Check.stateOf(x));
    }

    private static void buildAnswers() {
        CountingNetwork x = new CountingNetwork();
        for (int stations = 1; stations <= 6; stations++) {
            check.same("build(2, ..)", 1, x.build(2, stations));
            check.same("build(4, ..)", 6, x.build(4, stations));
            check.same("build(8, ..)", 24, x.build(8, stations));
            check.same("about(0) after build(8, ..)", 8, x.about(0));
            x.station(stations - 1, true);
            int beyond = stations;
            check.refusedDeed("station beyond", IllegalArgumentException.class, () -> x.station(beyond, true));
        }
    }

    private static void buildClearsAll() {
        CountingNetwork x = Check.network(8, 6);
        for (int t = 0; t < 20; t++) {
            x.enter(t % 8, t % 2 == 0);
        }
        x.settle(30);
        x.enter(3, true);
        x.move(20);
        x.twin(0);
        for (int s = 0; s < 6; s++) {
            x.station(s, true);
        }
        check.same("build again", 24, x.build(8, 6));
        check.row("state after build", Check.stateOf(Check.network(8, 6)), Check.stateOf(x));
        check.same("nobody is under way after build: resend()", 0, x.resend());
        x.enter(0, false);
        CountingNetwork fresh = Check.network(8, 6);
        fresh.enter(0, false);
        check.row("a token that comes after build", Check.stateOf(fresh), Check.stateOf(x));
        check.same("stations are up after build: settle(100)", 14, x.settle(100));
        x.build(8, 1);
        x.enter(0, false);
        x.move(0);
        x.build(2, 1);
        check.same("its letter is gone: resend()", 0, x.resend());
        check.same("build to a smaller width", 2, x.about(0));
        check.refused("balancer(1, 0) of width 2", IndexOutOfBoundsException.class, () -> x.balancer(1, 0));
    }

    private static void buildRefuses() {
        CountingNetwork x = Check.network(4, 3);
        x.enter(1, true);
        x.move(0);
        int[] before = Check.stateOf(x);
        for (int width : new int[] {Integer.MIN_VALUE, -2, -1, 0, 1, 3, 5, 6, 7, 9, 16, Integer.MAX_VALUE}) {
            check.refused("build(" + width + ", 1)", IllegalArgumentException.class, () -> x.build(width, 1));
        }
        for (int stations : new int[] {Integer.MIN_VALUE, -1, 0, 7, Integer.MAX_VALUE}) {
            check.refused("build(4, " + stations + ")", IllegalArgumentException.class, () -> x.build(4, stations));
        }
        check.row("a refused build changes nothing", before, Check.stateOf(x));
    }

    private static void widthTwo() {
        CountingNetwork x = Check.network(2, 6);
        balancers(x, new int[][] {{0, 1, 0}});
        exits(x, new int[] {0, 1});
    }

    private static void widthFour() {
        CountingNetwork x = Check.network(4, 6);
        balancers(x, new int[][] {{0, 1, 0}, {2, 3, 0}, {0, 3, 1}, {1, 2, 1}, {0, 1, 2}, {3, 2, 2}});
        exits(x, new int[] {0, 1, 3, 2});
    }

    // Laid out by hand: rows 0 1 3 2 and 4 5 7 6 are merged; p comes from 0 3 and 5 6, q from 1 2 and 4 7.
    private static void widthEight() {
        CountingNetwork x = Check.network(8, 6);
        balancers(x, new int[][] {
            {0, 1, 0}, {2, 3, 0}, {0, 3, 1}, {1, 2, 1}, {0, 1, 2}, {3, 2, 2},
            {4, 5, 0}, {6, 7, 0}, {4, 7, 1}, {5, 6, 1}, {4, 5, 2}, {7, 6, 2},
            {0, 6, 3}, {3, 5, 3}, {0, 3, 4}, {6, 5, 4},
            {1, 7, 3}, {2, 4, 3}, {1, 2, 4}, {7, 4, 4},
            {0, 1, 5}, {3, 2, 5}, {6, 7, 5}, {5, 4, 5}});
        exits(x, new int[] {0, 1, 3, 2, 6, 7, 5, 4});
    }

    private static void balancers(CountingNetwork x, int[][] want) {
        for (int b = 0; b < want.length; b++) {
            for (int what = 0; what <= 2; what++) {
                check.same("balancer(" + b + ", " + what + ")", want[b][what], x.balancer(b, what));
            }
        }
        int behind = want.length;
        check.refused("balancer(" + behind + ", 0)", IndexOutOfBoundsException.class, () -> x.balancer(behind, 0));
    }

    private static void exits(CountingNetwork x, int[] wires) {
        for (int i = 0; i < wires.length; i++) {
            check.same("exit(" + i + ", 0)", wires[i], x.exit(i, 0));
        }
        check.refused("exit(width, 0)", IndexOutOfBoundsException.class, () -> x.exit(wires.length, 0));
    }

    private static void stationsOfBalancersAndExits() {
        int[] widths = {2, 4, 8};
        for (int width : widths) {
            for (int stations = 1; stations <= 6; stations++) {
                CountingNetwork x = new CountingNetwork();
                int count = x.build(width, stations);
                for (int b = 0; b < count; b++) {
                    check.same("balancer(" + b + ", 3)", x.balancer(b, 2) % stations, x.balancer(b, 3));
                }
                for (int i = 0; i < width; i++) {
                    check.same("exit(" + i + ", 1)", i % stations, x.exit(i, 1));
                }
            }
        }
    }

    private static void tokensHad() {
        CountingNetwork x = Check.network(4, 1);
        for (int t = 0; t < 3; t++) {
            x.enter(0, false);
            x.move(t);
            x.deliver(0);
            check.same("had before going through", t, x.balancer(0, 4));
            x.move(t);
            check.same("had", t + 1, x.balancer(0, 4));
            check.same("out by turns", t % 2 == 0 ? 0 : 1, x.token(t, 0));
        }
        check.same("others had none", 0, x.balancer(1, 4));
        check.same("others had none", 0, x.balancer(2, 4));
        x.move(0);
        x.move(1);
        check.same("balancer(2, 4)", 1, x.balancer(2, 4));
        check.same("balancer(3, 4)", 1, x.balancer(3, 4));
    }

    private static void balancerRefuses() {
        CountingNetwork x = Check.network(4, 2);
        for (int b : new int[] {Integer.MIN_VALUE, -1, 6, 24, Integer.MAX_VALUE}) {
            check.refused("balancer(" + b + ", 0)", IndexOutOfBoundsException.class, () -> x.balancer(b, 0));
            check.refused("balancer(" + b + ", 9)", IndexOutOfBoundsException.class, () -> x.balancer(b, 9));
        }
        for (int what : new int[] {Integer.MIN_VALUE, -1, 5, Integer.MAX_VALUE}) {
            check.refused("balancer(5, " + what + ")", IllegalArgumentException.class, () -> x.balancer(5, what));
        }
    }

    private static void exitRefuses() {
        CountingNetwork x = Check.network(4, 2);
        for (int i : new int[] {Integer.MIN_VALUE, -1, 4, 8, Integer.MAX_VALUE}) {
            check.refused("exit(" + i + ", 0)", IndexOutOfBoundsException.class, () -> x.exit(i, 0));
            check.refused("exit(" + i + ", 9)", IndexOutOfBoundsException.class, () -> x.exit(i, 9));
        }
        for (int what : new int[] {Integer.MIN_VALUE, -1, 3, Integer.MAX_VALUE}) {
            check.refused("exit(3, " + what + ")", IllegalArgumentException.class, () -> x.exit(3, what));
        }
    }

    private static void numbersHandedOut() {
        CountingNetwork x = Check.network(2, 1);
        for (int t = 0; t < 5; t++) {
            x.enter(1, false);
        }
        x.settle(1);
        for (int t = 0; t < 5; t++) {
            x.move(t);
        }
        check.same("exit(0, 2) before", 0, x.exit(0, 2));
        x.settle(1);
        check.same("exit(0, 2)", 3, x.exit(0, 2));
        check.same("exit(1, 2)", 2, x.exit(1, 2));
    }
}

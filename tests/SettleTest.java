/** Promise 15: settle. */
public final class SettleTest {
    private static final Check check = new Check();

    public static void main(String[] args) {
        roundsThatAreNeeded();
        atMostSoMany();
        nothingToDo();
        stuckTokensTakeAllRounds();
        tokensThatCannotMoveStay();
        movesFromTheLeastOn();
        deliversTheFirstFirst();
        fullBag();
        refuses();
        check.end();
    }

    private static void roundsThatAreNeeded() {
        CountingNetwork x = Check.network(8, 6);
        x.enter(7, true);
        check.same("a letter and a step for each of six columns and the exit", 14, x.settle(100));
        x = Check.network(8, 1);
        x.enter(7, true);
        check.same("one letter, six balancers, the exit", 8, x.settle(100));
        x = new CountingNetwork();
        x.enter(1, true);
        check.same("one letter, one balancer, the exit", 3, x.settle(100));
        check.same("it is done", 2, x.token(0, 2));
    }

    private static void atMostSoMany() {
        CountingNetwork x = new CountingNetwork();
        x.enter(0, false);
        int[] before = Check.stateOf(x);
        check.same("settle(0)", 0, x.settle(0));
        check.row("settle(0) changes nothing", before, Check.stateOf(x));
        check.same("settle(1)", 1, x.settle(1));
        check.same("it came", 0, x.token(0, 1));
        check.same("no letter is left", 0, x.letter(-1, 0));
        check.same("settle(1)", 1, x.settle(1));
        check.same("it passed", 1, x.token(0, 3));
        check.same("settle(1)", 1, x.settle(1));
        check.same("it is done", 0, x.about(2));
        check.same("settle(1)", 0, x.settle(1));
    }

    private static void nothingToDo() {
        CountingNetwork x = new CountingNetwork();
        check.same("no tokens", 0, x.settle(100));
        x.enter(0, false);
        x.move(0);
        x.twin(0);
        x.deliver(0);
        x.move(0);
        x.move(0);
        check.same("all are done", 0, x.settle(100));
        check.same("a letter that is left stays", 1, x.letter(-1, 0));
    }

    private static void stuckTokensTakeAllRounds() {
        CountingNetwork x = Check.network(4, 2);
        x.enter(0, false);
        x.enter(1, false);
        x.move(0);
        x.lose(0);
        check.same("token 0 waits for a letter", 100, x.settle(100));
        check.same("token 1 is done", 2, x.token(1, 2));
        check.same("token 0 is under way", 1, x.token(0, 2));
        check.same("no letter was resent", 0, x.letter(-1, 0));
        check.same("resend", 1, x.resend());
        // The letter, column 0, then a letter and a step for columns 1 and 2 and for exit 1.
        check.same("then it comes", 8, x.settle(100));
    }

    private static void tokensThatCannotMoveStay() {
        CountingNetwork x = Check.network(4, 2);
        x.enter(0, false);
        x.enter(0, false);
        x.settle(1);
        x.move(1);
        x.move(1);
        x.deliver(0);
        x.station(0, true);
        check.same("settle", 3, x.settle(3));
        check.same("token 0 stays", 0, x.token(0, 3));
        check.same("token 0 is at 0", 0, x.token(0, 1));
        check.same("token 1 went on", 2, x.token(1, 3));
        check.same("token 1 is under way to 0", 1, x.token(1, 2));
        check.same("its letter went down with 0", 0, x.letter(-1, 0));
    }

    private static void movesFromTheLeastOn() {
        CountingNetwork x = Check.network(2, 1);
        x.enter(0, false);
        x.enter(0, false);
        x.enter(0, false);
        x.settle(2);
        check.same("token 0 came first", 0, x.token(0, 0));
        check.same("token 1 came second", 1, x.token(1, 0));
        check.same("token 2 came third", 0, x.token(2, 0));
        x.settle(1);
        check.same("number of 0", 0, x.token(0, 4));
        check.same("number of 1", 1, x.token(1, 4));
        check.same("number of 2", 2, x.token(2, 4));
    }

    private static void deliversTheFirstFirst() {
        CountingNetwork x = Check.network(4, 2);
        x.enter(0, false);
        x.move(0);
        x.twin(0);
        x.deliver(0);
        x.move(0);
        x.move(0);
        x.twin(1);
        x.enter(2, true);
        check.same("settle", 1, x.settle(1));
        check.same("all letters went", 0, x.letter(-1, 0));
        check.same("token 0 came by the letter of its way", 1, x.token(0, 1));
        check.same("token 1 came", 0, x.token(1, 1));
    }

    private static void fullBag() {
        CountingNetwork x = Check.network(2, 1);
        x.enter(0, false);
        x.enter(0, false);
        x.move(0);
        while (x.letter(-1, 0) < 60) {
            x.twin(0);
        }
        check.same("settle", 1, x.settle(1));
        check.same("token 0 came", 0, x.token(0, 1));
        check.same("token 1 found no room", CountingNetwork.NONE, x.token(1, 1));
        check.same("token 1 is not under way", 0, x.token(1, 2));
        check.same("the bag is empty", 0, x.letter(-1, 0));
        check.same("the rest", 3, x.settle(100));
    }

    private static void refuses() {
        CountingNetwork x = new CountingNetwork();
        x.enter(0, true);
        int[] before = Check.stateOf(x);
        for (int most : new int[] {Integer.MIN_VALUE, -1, 101, Integer.MAX_VALUE}) {
            check.refused("settle(" + most + ")", IllegalArgumentException.class, () -> x.settle(most));
        }
        check.row("a refused settle changes nothing", before, Check.stateOf(x));
    }
}

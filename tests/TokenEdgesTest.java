/** The edges of promises 5, 6, 13 and 14: a test for each sentence of the document that names one. */
public final class TokenEdgesTest {
    private static final int NONE = CountingNetwork.NONE;
    private static final int MIN = Integer.MIN_VALUE;
    private static final int MAX = Integer.MAX_VALUE;

    private static final Check check = new Check();

    public static void main(String[] args) {
        thereIsNoSuchWire();
        thereWereTwoHundred();
        fortyAreNotDone();
        twoHundredAndFortyAtOnce();
        wrongWireIsNamedFirst();
        thereIsNoTokenToMove();
        itIsDone();
        itsStationIsDown();
        itsStationIsDownWhenItIsUnderWay();
        outsideThereIsNoStation();
        aLetterIsNeededAndThereAreSixty();
        noLetterIsNeeded();
        aFullBagAndADownStation();
        thereIsNoSuchTokenToAskOf();
        anotherWhatOfAToken();
        itsStationIsNoneOrTheOneItLeft();
        whatItIs();
        othersAreShownAsSoonAsDone();
        orderedOnesWaitForAllSmallerNumbers();
        orderedOnesWaitForManyNumbers();
        shownIsNoneBeforeItIsDone();
        numbersGoOnBehindTheWidth();
        theHighestNumber();
        howManyBelowWereNot();
        eachTokenPassesSoMany();
        anotherWhatAbout();
        check.end();
    }

    // Promise 5: "IllegalArgumentException if there is no such wire"
    private static void thereIsNoSuchWire() {
        for (int width = 2; width <= 8; width *= 2) {
            CountingNetwork x = Check.network(width, 3);
            for (int wire : new int[] {MIN, -width, -1, width, width + 1, 9, MAX}) {
                check.refused("enter(" + wire + ")", Check.ARGUMENT, () -> x.enter(wire, false));
                check.refused("enter(" + wire + ")", Check.ARGUMENT, () -> x.enter(wire, true));
            }
            check.same("none entered", 0, x.about(1));
            check.same("enter(0)", 0, x.enter(0, true));
            check.same("enter(width - 1)", 1, x.enter(width - 1, false));
            check.same("its wire", width - 1, x.token(1, 0));
        }
    }

    private static CountingNetwork withDone(int tokens) {
        CountingNetwork x = new CountingNetwork();
        for (int t = 0; t < tokens; t++) {
            x.enter(t % 2, true);
            if (t % 40 == 39 || t == tokens - 1) {
                x.settle(100);
            }
        }
        return x;
    }

    // Promise 5: "IllegalStateException if there were 200"
    private static void thereWereTwoHundred() {
        CountingNetwork x = withDone(199);
        check.same("not done", 0, x.about(2));
        check.same("enter the 200th", 199, x.enter(0, true));
        check.same("entered", 200, x.about(1));
        check.refused("enter the 201st", Check.STATE, () -> x.enter(0, true));
        check.same("settle", 3, x.settle(100));
        check.same("not done", 0, x.about(2));
        check.refused("enter when all are done", Check.STATE, () -> x.enter(1, false));
        check.same("entered", 200, x.about(1));
        check.same("number of the 200th", 199, x.token(199, 4));
        check.refused("token(200, 0)", Check.ARGUMENT, () -> x.token(200, 0));
        x.build(2, 1);
        check.same("enter after build", 0, x.enter(0, true));
    }

    // Promise 5: "or 40 are not done"
    private static void fortyAreNotDone() {
        CountingNetwork x = withDone(3);
        for (int t = 3; t < 43; t++) {
            check.same("not done", t - 3, x.about(2));
            check.same("enter", t, x.enter(0, false));
        }
        check.refused("enter with 40 outside", Check.STATE, () -> x.enter(0, false));
        check.same("a letter", 2, x.move(20));
        check.refused("enter with one of 40 under way", Check.STATE, () -> x.enter(0, false));
        check.same("deliver", 1, x.deliver(0));
        check.refused("enter with one of 40 at a station", Check.STATE, () -> x.enter(0, false));
        check.same("through", 0, x.move(20));
        check.refused("enter with one of 40 at its exit", Check.STATE, () -> x.enter(0, false));
        check.same("not done", 40, x.about(2));
        check.same("done", 1, x.move(20));
        check.same("not done", 39, x.about(2));
        check.same("enter the 40th that is not done", 43, x.enter(0, false));
        check.refused("enter another", Check.STATE, () -> x.enter(0, false));
        check.same("entered", 44, x.about(1));
        check.same("not done", 40, x.about(2));
    }

    private static void twoHundredAndFortyAtOnce() {
        CountingNetwork x = withDone(160);
        for (int t = 160; t < 200; t++) {
            check.same("enter", t, x.enter(1, false));
        }
        check.refused("enter", Check.STATE, () -> x.enter(1, false));
        x.move(199);
        x.deliver(0);
        x.move(199);
        check.same("one is done", 1, x.move(199));
        check.refused("enter with 39 not done, but 200 entered", Check.STATE, () -> x.enter(1, false));
    }

    // "Of two exceptions the one that it names first is thrown."
    private static void wrongWireIsNamedFirst() {
        CountingNetwork many = new CountingNetwork();
        for (int t = 0; t < 40; t++) {
            many.enter(0, false);
        }
        CountingNetwork all = withDone(200);
        for (int wire : new int[] {MIN, -1, 2, MAX}) {
            check.refused("enter(" + wire + ") with 40", Check.ARGUMENT, () -> many.enter(wire, false));
            check.refused("enter(" + wire + ") after 200", Check.ARGUMENT, () -> all.enter(wire, false));
        }
    }

    // Promise 6: "IllegalArgumentException if there is no such token"
    private static void thereIsNoTokenToMove() {
        CountingNetwork x = Check.network(4, 2);
        for (int entered = 0; entered < 3; entered++) {
            for (int t : new int[] {MIN, -2, -1, entered, entered + 1, 199, 200, MAX}) {
                check.refused("move(" + t + ")", Check.ARGUMENT, () -> x.move(t));
            }
            x.enter(3, false);
            check.same("move the last", 2, x.move(entered));
        }
        CountingNetwork full = withDone(200);
        check.refused("move(200)", Check.ARGUMENT, () -> full.move(200));
        check.refused("move(199)", Check.STATE, () -> full.move(199));
    }

    // Promise 6: "IllegalStateException if it is done"
    private static void itIsDone() {
        CountingNetwork x = Check.network(2, 2);
        x.enter(0, false);
        x.enter(0, true);
        x.settle(2);
        check.same("token 1 posts a letter to exit 1", 2, x.move(1));
        x.deliver(0);
        check.same("token 1 is done", 1, x.move(1));
        check.refused("done, though not shown", Check.STATE, () -> x.move(1));
        check.same("token 0 is done", 1, x.move(0));
        check.refused("done and shown", Check.STATE, () -> x.move(0));
        check.same("it has its number still", 0, x.token(0, 4));
        check.same("exit 0 handed out one", 1, x.exit(0, 2));
        x.station(0, true);
        check.refused("done at a down station", Check.STATE, () -> x.move(0));
        check.same("no letters", 0, x.letter(-1, 0));
    }

    // Promise 6: "its station is down"
    private static void itsStationIsDown() {
        CountingNetwork x = Check.network(2, 2);
        x.enter(0, false);
        x.enter(0, false);
        x.settle(1);
        x.station(1, true);
        check.same("another station is down: through", 0, x.move(0));
        x.station(0, true);
        check.refused("before a balancer", Check.STATE, () -> x.move(1));
        check.refused("before an exit", Check.STATE, () -> x.move(0));
        check.same("balancer 0 had one", 1, x.balancer(0, 4));
        check.same("exit 0 had none", 0, x.exit(0, 2));
        x.station(0, false);
        check.same("up again, before an exit", 1, x.move(0));
        check.same("up again, before a balancer", 0, x.move(1));
        x.station(0, true);
        check.refused("before a letter", Check.STATE, () -> x.move(1));
        check.same("no letter", 0, x.letter(-1, 0));
        check.same("not under way", 0, x.token(1, 2));
        x.station(0, false);
        check.same("a letter to the other, which is down", 2, x.move(1));
        check.same("under way to one that is down", 3, x.move(1));
    }

    // Promises 6 and 13: its station is, "when it is under way the one that it left".
    private static void itsStationIsDownWhenItIsUnderWay() {
        CountingNetwork x = Check.network(4, 3);
        x.enter(0, false);
        x.settle(2);
        check.same("a letter from station 0 to 1", 2, x.move(0));
        x.station(1, true);
        x.station(2, true);
        check.same("under way, others are down", 3, x.move(0));
        x.station(0, true);
        check.refused("under way, the one that it left is down", Check.STATE, () -> x.move(0));
        check.same("it is under way still", 1, x.token(0, 2));
        x.station(0, false);
        check.same("up again", 3, x.move(0));
        x.station(0, true);
        x.station(1, false);
        check.same("deliver", 1, x.deliver(0));
        check.same("at station 1, which is up", 0, x.move(0));
    }

    private static void outsideThereIsNoStation() {
        CountingNetwork x = Check.network(4, 3);
        for (int s = 0; s < 3; s++) {
            x.station(s, true);
        }
        x.enter(0, false);
        check.same("from outside, all are down: a letter", 2, x.move(0));
        check.same("from outside, all are down: under way", 3, x.move(0));
        x.lose(0);
        check.same("without a letter", 3, x.move(0));
        check.same("no letter was posted", 0, x.letter(-1, 0));
    }

    private static CountingNetwork withLetters(int letters) {
        CountingNetwork x = Check.network(2, 2);
        for (int t = 0; t < 4; t++) {
            x.enter(0, false);
        }
        x.move(0);
        x.move(1);
        x.deliver(0);
        x.deliver(0);
        x.move(0);
        x.move(2);
        for (int n = 1; n < letters; n++) {
            x.twin(0);
        }
        check.same("letters", letters, x.letter(-1, 0));
        return x;
    }

    // Promise 6: "or a letter would be needed and there are 60"
    private static void aLetterIsNeededAndThereAreSixty() {
        CountingNetwork x = withLetters(60);
        check.refused("from outside", Check.STATE, () -> x.move(3));
        check.same("it is not under way", 0, x.token(3, 2));
        check.same("60 letters", 60, x.letter(-1, 0));
        check.same("through", 0, x.move(1));
        check.refused("from a station", Check.STATE, () -> x.move(1));
        check.same("it is not under way", 0, x.token(1, 2));
        x.lose(0);
        check.same("59 letters, from a station", 2, x.move(1));
        check.same("the 60th letter", 1, x.letter(59, 0));
        check.refused("60 again", Check.STATE, () -> x.move(3));
        x.lose(59);
        check.same("59 letters, from outside", 2, x.move(3));
        check.same("the 60th letter", 3, x.letter(59, 0));
        CountingNetwork almost = withLetters(59);
        check.same("with 59", 2, almost.move(3));
        check.same("through", 0, almost.move(1));
        check.refused("with 60", Check.STATE, () -> almost.move(1));
    }

    private static void noLetterIsNeeded() {
        CountingNetwork x = withLetters(60);
        check.same("under way", 3, x.move(2));
        check.same("through a balancer", 0, x.move(1));
        check.same("out of an exit", 1, x.move(0));
        check.same("60 letters", 60, x.letter(-1, 0));
    }

    private static void aFullBagAndADownStation() {
        CountingNetwork x = withLetters(60);
        x.move(1);
        x.station(0, true);
        check.refused("both", Check.STATE, () -> x.move(1));
        x.lose(59);
        check.refused("down", Check.STATE, () -> x.move(1));
        x.station(0, false);
        check.same("neither", 2, x.move(1));
    }

    // Promise 13: "IllegalArgumentException if there is no such token or what."
    private static void thereIsNoSuchTokenToAskOf() {
        CountingNetwork x = new CountingNetwork();
        for (int entered = 0; entered < 3; entered++) {
            for (int t : new int[] {MIN, -1, entered, entered + 1, 199, 200, MAX}) {
                for (int what = -1; what <= 5; what++) {
                    int other = what;
                    check.refused("token(" + t + ", " + what + ")", Check.ARGUMENT, () -> x.token(t, other));
                }
            }
            x.enter(1, false);
            check.same("wire of the last", 1, x.token(entered, 0));
        }
        CountingNetwork full = withDone(200);
        check.refused("token(200, 0)", Check.ARGUMENT, () -> full.token(200, 0));
        check.same("token(199, 2)", 2, full.token(199, 2));
    }

    private static void anotherWhatOfAToken() {
        CountingNetwork x = new CountingNetwork();
        x.enter(1, false);
        for (int round = 0; round < 4; round++) {
            for (int what : new int[] {MIN, -2, -1, 5, 6, MAX}) {
                check.refused("token(0, " + what + ")", Check.ARGUMENT, () -> x.token(0, what));
            }
            x.settle(1);
        }
        int[] told = {0, 0, 2, 1, 0};
        for (int what = 0; what <= 4; what++) {
            check.same("token(0, " + what + ")", told[what], x.token(0, what));
        }
    }

    // Promise 13: "its station (NONE: none; when it is under way the one that it left)"
    private static void itsStationIsNoneOrTheOneItLeft() {
        CountingNetwork x = Check.network(4, 3);
        x.enter(0, false);
        check.same("outside", NONE, x.token(0, 1));
        x.move(0);
        check.same("under way from outside", NONE, x.token(0, 1));
        x.deliver(0);
        int[] stations = {0, 1, 2};
        for (int s : stations) {
            check.same("at " + s, s, x.token(0, 1));
            x.move(0);
            check.same("through at " + s, s, x.token(0, 1));
            x.move(0);
            check.same("under way from " + s, s, x.token(0, 1));
            x.lose(0);
            check.same("its letter is lost", s, x.token(0, 1));
            x.resend();
            x.station((s + 1) % 3, true);
            x.twin(0);
            x.deliver(0);
            check.same("its letter came to a down station", s, x.token(0, 1));
            x.station((s + 1) % 3, false);
            x.deliver(0);
        }
        check.same("at exit 0", 0, x.token(0, 1));
        x.move(0);
        check.same("done, where it came out", 0, x.token(0, 1));
    }

    // Promise 13: "what it is (0 at a station or outside, 1 under way, 2 done)"
    private static void whatItIs() {
        CountingNetwork x = new CountingNetwork();
        x.enter(0, true);
        check.same("outside", 0, x.token(0, 2));
        x.move(0);
        check.same("under way", 1, x.token(0, 2));
        x.lose(0);
        check.same("under way without a letter", 1, x.token(0, 2));
        x.resend();
        x.deliver(0);
        check.same("at a station", 0, x.token(0, 2));
        x.move(0);
        check.same("before the exit", 0, x.token(0, 2));
        x.move(0);
        check.same("done", 2, x.token(0, 2));
    }

    /** Tokens of a network of width 2 that stand before their exits, even ones before exit 0. */
    private static CountingNetwork beforeTheExits(int tokens, boolean ordered) {
        CountingNetwork x = new CountingNetwork();
        for (int t = 0; t < tokens; t++) {
            x.enter(0, ordered);
        }
        x.settle(2);
        return x;
    }

    // "others as soon as they are done"
    private static void othersAreShownAsSoonAsDone() {
        CountingNetwork x = beforeTheExits(6, false);
        x.move(5);
        check.same("the first at exit 1", 1, x.token(5, 4));
        x.move(3);
        check.same("the second at exit 1", 3, x.token(3, 4));
        x.move(4);
        check.same("the first at exit 0", 0, x.token(4, 4));
    }

    // "An ORDERED token is SHOWN its number only when all smaller numbers were handed out"
    private static void orderedOnesWaitForAllSmallerNumbers() {
        CountingNetwork x = beforeTheExits(6, true);
        x.move(0);
        check.same("0 has none below: shown at once", 0, x.token(0, 4));
        x.move(2);
        check.same("2 waits for 1", NONE, x.token(2, 4));
        x.move(4);
        check.same("4 waits for 1 and 3", NONE, x.token(4, 4));
        x.move(1);
        check.same("1 is shown at once", 1, x.token(1, 4));
        check.same("2 waits no more", 2, x.token(2, 4));
        check.same("4 waits for 3", NONE, x.token(4, 4));
        check.same("its state is done all the same", 2, x.token(4, 2));
        x.move(5);
        check.same("3 is shown at once", 3, x.token(5, 4));
        check.same("4 waits no more", 4, x.token(4, 4));
    }

    private static void orderedOnesWaitForManyNumbers() {
        CountingNetwork x = beforeTheExits(40, true);
        for (int t = 1; t < 40; t += 2) {
            x.move(t);
            check.same("odd numbers wait", NONE, x.token(t, 4));
        }
        for (int t = 0; t < 38; t += 2) {
            x.move(t);
            check.same("even numbers come", t, x.token(t, 4));
            check.same("the odd one behind is shown", t + 1, x.token(t + 1, 4));
            check.same("the one behind that waits", NONE, x.token(t + 3, 4));
        }
        x.move(38);
        check.same("the last", 39, x.token(39, 4));
    }

    private static void shownIsNoneBeforeItIsDone() {
        CountingNetwork x = new CountingNetwork();
        x.enter(0, false);
        for (int round = 0; round < 3; round++) {
            check.same("not shown", NONE, x.token(0, 4));
            x.settle(1);
        }
        check.same("shown", 0, x.token(0, 4));
    }

    // "an exit i hands it the number i + w * (how many were handed out there before)"
    private static void numbersGoOnBehindTheWidth() {
        for (int width = 2; width <= 8; width *= 2) {
            CountingNetwork x = Check.network(width, 1);
            for (int t = 0; t < 2 * width + 1; t++) {
                x.enter(0, true);
                x.settle(100);
                check.same("number", t, x.token(t, 4));
                check.same("its exit", t / width + 1, x.exit(t % width, 2));
                check.same("its wire", x.exit(t % width, 0), x.token(t, 0));
            }
        }
    }

    // Promise 14: "3 the highest number that was handed out (NONE: none)"
    private static void theHighestNumber() {
        CountingNetwork x = new CountingNetwork();
        check.same("no token", NONE, x.about(3));
        x.enter(0, true);
        check.same("none is done", NONE, x.about(3));
        x.settle(2);
        check.same("none is done yet", NONE, x.about(3));
        x.settle(1);
        check.same("the first is done", 0, x.about(3));
        x = beforeTheExits(4, true);
        x.move(3);
        check.same("1 alone, though not shown", 1, x.about(3));
        x.move(0);
        check.same("0 is not higher", 1, x.about(3));
        x.move(2);
        check.same("2 is higher", 2, x.about(3));
        x.build(2, 1);
        check.same("none after build", NONE, x.about(3));
        check.same("199 after 200", 199, withDone(200).about(3));
    }

    // Promise 14: "4 how many numbers below that were not"
    private static void howManyBelowWereNot() {
        CountingNetwork x = beforeTheExits(40, false);
        check.same("none was handed out", 0, x.about(4));
        for (int t = 1; t < 40; t += 2) {
            x.move(t);
            check.same("the even ones", (t + 1) / 2, x.about(4));
            check.same("the highest", t, x.about(3));
        }
        for (int t = 0; t < 40; t += 2) {
            x.move(t);
            check.same("fewer", 19 - t / 2, x.about(4));
            check.same("the highest stays", 39, x.about(3));
        }
        check.same("none after 200", 0, withDone(200).about(4));
    }

    // Promise 14: "5 how many balancers each token passes"
    private static void eachTokenPassesSoMany() {
        int[] passes = {1, 3, 6};
        for (int n = 0; n < 3; n++) {
            CountingNetwork x = Check.network(2 << n, 6);
            check.same("about(5)", passes[n], x.about(5));
            for (int wire = 0; wire < 2 << n; wire++) {
                x.enter(wire, false);
                check.same("it passed none", 0, x.token(wire, 3));
            }
            x.settle(100);
            for (int t = 0; t < 2 << n; t++) {
                check.same("it passed", passes[n], x.token(t, 3));
            }
        }
    }

    // Promise 14: "IllegalArgumentException for another what."
    private static void anotherWhatAbout() {
        CountingNetwork empty = new CountingNetwork();
        CountingNetwork full = withDone(200);
        for (int what : new int[] {MIN, -2, -1, 6, 7, MAX}) {
            check.refused("about(" + what + ")", Check.ARGUMENT, () -> empty.about(what));
            check.refused("about(" + what + ")", Check.ARGUMENT, () -> full.about(what));
        }
        int[] told = {2, 200, 0, 199, 0, 1};
        for (int what = 0; what <= 5; what++) {
            check.same("about(" + what + ")", told[what], full.about(what));
        }
    }
}

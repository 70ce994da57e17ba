/** The edges of promise 15: a test for each part of its words that names one. */
public final class SettleEdgesTest {
    private static final int NONE = CountingNetwork.NONE;

    private static final Check check = new Check();

    public static void main(String[] args) {
        mostIsZeroToHundred();
        atMostSoManyTimes();
        asLongAsTokensAreLeft();
        lettersStayWhenNoTokenIsLeft();
        eachTokenMovesOnce();
        movesComeBeforeLetters();
        lettersPostedInTheRoundAreDelivered();
        theFirstLetterFirst();
        theLeastTokenFirst();
        aTokenAtADownStationStays();
        aTokenWithoutALetterStays();
        aTokenWithoutRoomStays();
        lettersToADownStationAreGone();
        settlesFortyAtOnce();
        check.end();
    }

    private static CountingNetwork withTokens(int width, int stations, int tokens) {
        CountingNetwork x = Check.network(width, stations);
        for (int t = 0; t < tokens; t++) {
            x.enter(0, false);
        }
        return x;
    }

    private static CountingNetwork withOneThatIsStuck() {
        CountingNetwork x = withTokens(2, 1, 1);
        x.move(0);
        x.lose(0);
        return x;
    }

    // "IllegalArgumentException if most is not 0 .. 100."
    private static void mostIsZeroToHundred() {
        CountingNetwork[] some = {new CountingNetwork(), withTokens(4, 2, 3), withOneThatIsStuck()};
        for (CountingNetwork x : some) {
            for (int most : new int[] {Integer.MIN_VALUE, -100, -2, -1, 101, 102, 256, Integer.MAX_VALUE}) {
                check.refused("settle(" + most + ")", Check.ARGUMENT, () -> x.settle(most));
            }
            check.same("settle(0)", 0, x.settle(0));
        }
        for (int most = 0; most <= 100; most++) {
            check.same("settle(" + most + ") with one that is stuck", most, some[2].settle(most));
        }
    }

    // "at most so many times": "how often"
    private static void atMostSoManyTimes() {
        for (int most = 0; most <= 5; most++) {
            CountingNetwork x = withTokens(2, 1, 1);
            check.same("settle(" + most + ")", Math.min(most, 3), x.settle(most));
            check.same("not done", most < 3 ? 1 : 0, x.about(2));
            check.same("the rest", Math.max(3 - most, 0), x.settle(100));
            check.same("done", 0, x.about(2));
        }
    }

    // "as long as tokens are left"
    private static void asLongAsTokensAreLeft() {
        CountingNetwork x = new CountingNetwork();
        check.same("no tokens", 0, x.settle(1));
        check.same("no tokens", 0, x.settle(100));
        x.enter(0, false);
        check.same("one token", 3, x.settle(3));
        check.same("all are done", 0, x.settle(1));
        x.enter(0, false);
        check.same("another", 3, x.settle(100));
        CountingNetwork stuck = withOneThatIsStuck();
        check.same("one is left to the end", 100, stuck.settle(100));
        check.same("it is under way", 1, stuck.token(0, 2));
    }

    private static void lettersStayWhenNoTokenIsLeft() {
        CountingNetwork x = withTokens(2, 1, 1);
        x.move(0);
        x.twin(0);
        x.deliver(0);
        x.move(0);
        x.move(0);
        check.same("settle", 0, x.settle(100));
        check.same("the letter stays", 1, x.letter(-1, 0));
        x.enter(0, false);
        check.same("settle with a token", 1, x.settle(1));
        check.same("the letter went", 0, x.letter(-1, 0));
    }

    // "Moves each token that isn't done .. once"
    private static void eachTokenMovesOnce() {
        CountingNetwork x = withTokens(8, 1, 2);
        x.settle(1);
        for (int passed = 1; passed <= 6; passed++) {
            check.same("settle(1)", 1, x.settle(1));
            check.same("token 0 passed", passed, x.token(0, 3));
            check.same("token 1 passed", passed, x.token(1, 3));
        }
        check.same("not done", 2, x.about(2));
        check.same("settle(1)", 1, x.settle(1));
        check.same("done", 0, x.about(2));
    }

    // "then delivers": a token that comes by a letter moves in the next round only.
    private static void movesComeBeforeLetters() {
        CountingNetwork x = withTokens(2, 1, 1);
        x.move(0);
        check.same("settle(1)", 1, x.settle(1));
        check.same("it came", 0, x.token(0, 1));
        check.same("it passed none", 0, x.token(0, 3));
    }

    // "all letters that there are"
    private static void lettersPostedInTheRoundAreDelivered() {
        CountingNetwork x = withTokens(4, 2, 3);
        x.move(1);
        x.twin(0);
        check.same("settle(1)", 1, x.settle(1));
        check.same("no letters", 0, x.letter(-1, 0));
        for (int t = 0; t < 3; t++) {
            check.same("token " + t + " came", 0, x.token(t, 1));
            check.same("token " + t + " is under way no more", 0, x.token(t, 2));
        }
    }

    // "the first one first": what lies in front brings the token; its twins and older letters bring nobody.
    private static void theFirstLetterFirst() {
        CountingNetwork x = withTokens(4, 2, 1);
        x.move(0);
        x.twin(0);
        x.deliver(0);
        x.move(0);
        x.move(0);
        x.twin(0);
        x.twin(1);
        check.same("four letters", 4, x.letter(-1, 0));
        check.same("settle(1)", 1, x.settle(1));
        check.same("no letters", 0, x.letter(-1, 0));
        check.same("it came to station 1", 1, x.token(0, 1));
        check.same("settle(1)", 1, x.settle(1));
        check.same("it passed", 2, x.token(0, 3));
    }

    // "from the least on"
    private static void theLeastTokenFirst() {
        CountingNetwork x = withTokens(2, 1, 3);
        x.move(2);
        x.move(0);
        check.same("settle(2)", 2, x.settle(2));
        check.same("token 0 went out on top", 0, x.token(0, 0));
        check.same("token 1 went out below", 1, x.token(1, 0));
        check.same("token 2 went out on top", 0, x.token(2, 0));
        x.settle(1);
        check.same("number of token 0", 0, x.token(0, 4));
        check.same("number of token 2", 2, x.token(2, 4));
    }

    // "(A token that can't move stays.)"
    private static void aTokenAtADownStationStays() {
        CountingNetwork x = withTokens(2, 2, 3);
        x.settle(2);
        x.move(1);
        x.deliver(0);
        x.station(0, true);
        check.same("settle", 100, x.settle(100));
        check.same("token 0 stays", 0, x.token(0, 2));
        check.same("token 2 stays", 0, x.token(2, 2));
        check.same("token 1 is done", 2, x.token(1, 2));
        x.station(0, false);
        check.same("settle when it is up", 1, x.settle(100));
    }

    private static void aTokenWithoutALetterStays() {
        CountingNetwork x = withOneThatIsStuck();
        x.enter(1, false);
        check.same("settle", 5, x.settle(5));
        check.same("token 0 stays", 1, x.token(0, 2));
        check.same("token 0 has no letter", 0, x.letter(-1, 0));
        check.same("token 1 is done", 2, x.token(1, 2));
        check.same("resend", 1, x.resend());
        check.same("settle then", 3, x.settle(100));
        check.same("token 0 is done", 2, x.token(0, 2));
    }

    private static void aTokenWithoutRoomStays() {
        for (int letters = 57; letters <= 60; letters++) {
            CountingNetwork x = withTokens(2, 1, 3);
            x.move(0);
            while (x.letter(-1, 0) < letters) {
                x.twin(0);
            }
            check.same("settle(1)", 1, x.settle(1));
            check.same("no letters", 0, x.letter(-1, 0));
            check.same("token 0 came", 0, x.token(0, 1));
            check.same("token 1 with " + letters + " letters", letters < 60 ? 0 : NONE, x.token(1, 1));
            check.same("token 2 with " + letters + " letters", letters < 59 ? 0 : NONE, x.token(2, 1));
            check.same("settle", letters < 59 ? 2 : 3, x.settle(100));
        }
    }

    private static void lettersToADownStationAreGone() {
        CountingNetwork x = withTokens(2, 1, 1);
        x.station(0, true);
        check.same("settle", 2, x.settle(2));
        check.same("its letter is gone", 0, x.letter(-1, 0));
        check.same("it is under way", 1, x.token(0, 2));
        x.station(0, false);
        check.same("settle without a letter", 2, x.settle(2));
        check.same("it is under way still", 1, x.token(0, 2));
        check.same("resend", 1, x.resend());
        check.same("settle", 3, x.settle(100));
    }

    private static void settlesFortyAtOnce() {
        CountingNetwork x = withTokens(8, 6, 40);
        check.same("settle(13)", 13, x.settle(13));
        // Exit 5 alone is at the station of the last column, so its tokens need no letter more.
        check.same("those of exit 5 are done", 5, x.exit(5, 2));
        check.same("not done", 35, x.about(2));
        check.same("settle(100)", 1, x.settle(100));
        check.same("highest", 39, x.about(3));
        check.same("missing", 0, x.about(4));
    }
}

/** Promises 7 to 12: deliver, lose, twin, letter, resend, station. */
public final class LettersTest {
    private static final Check check = new Check();

    public static void main(String[] args) {
        deliverBringsTheToken();
        deliverToADownStation();
        deliverOfAnOldWay();
        deliverKeepsTheOrder();
        loseTakesOneOut();
        twinComesLast();
        twinOfAnOldLetterStaysOld();
        twinRefusesWhenFull();
        letterTells();
        resendPostsWhatIsMissing();
        resendStopsWhenFull();
        oldLettersDoNotCountForResending();
        resentLettersAreOfTheSameWay();
        stationGoesDownAndUp();
        wrongLetters();
        wrongStations();
        check.end();
    }

    private static CountingNetwork withTokens(int width, int stations, int tokens) {
        CountingNetwork x = Check.network(width, stations);
        for (int t = 0; t < tokens; t++) {
            x.enter(t % width, false);
        }
        return x;
    }

    private static void addressees(CountingNetwork x, String when, int... want) {
        int[] got = new int[x.letter(-1, 0)];
        for (int i = 0; i < got.length; i++) {
            got[i] = x.letter(i, 0);
        }
        check.row("letters " + when, want, got);
    }

    private static void deliverBringsTheToken() {
        CountingNetwork x = withTokens(4, 2, 1);
        x.move(0);
        check.same("deliver", 1, x.deliver(0));
        check.same("it is at station 0", 0, x.token(0, 1));
        check.same("it is not under way", 0, x.token(0, 2));
        check.same("the letter is gone", 0, x.letter(-1, 0));
        x.move(0);
        x.move(0);
        check.same("deliver", 1, x.deliver(0));
        check.same("it is at station 1", 1, x.token(0, 1));
    }

    private static void deliverToADownStation() {
        CountingNetwork x = withTokens(4, 2, 1);
        x.move(0);
        x.station(0, true);
        check.same("deliver", 0, x.deliver(0));
        check.same("the letter is gone", 0, x.letter(-1, 0));
        check.same("it is under way still", 1, x.token(0, 2));
        check.same("it is nowhere", CountingNetwork.NONE, x.token(0, 1));
        x.station(0, false);
        check.same("it waits for a letter", 3, x.move(0));
        check.same("resend", 1, x.resend());
        check.same("deliver", 1, x.deliver(0));
    }

    private static void deliverOfAnOldWay() {
        CountingNetwork x = withTokens(8, 1, 1);
        x.move(0);
        x.twin(0);
        check.same("deliver", 1, x.deliver(0));
        check.same("deliver a twin to one that is there", 0, x.deliver(0));
        check.same("no letter is left", 0, x.letter(-1, 0));

        // The third way leads to the same station as the first, so only the way tells the letters apart.
        x = withTokens(4, 2, 1);
        x.move(0);
        x.twin(0);
        x.deliver(0);
        x.move(0);
        x.move(0);
        x.deliver(1);
        x.move(0);
        x.move(0);
        addressees(x, "of two ways", 0, 0);
        check.same("both go to station 0", 0, x.letter(0, 1) + x.letter(1, 1));
        check.same("deliver the old one", 0, x.deliver(0));
        check.same("it is under way still", 1, x.token(0, 2));
        check.same("it left station 1", 1, x.token(0, 1));
        check.same("deliver the new one", 1, x.deliver(0));
        check.same("it is at station 0", 0, x.token(0, 1));
    }

    private static void deliverKeepsTheOrder() {
        CountingNetwork x = withTokens(4, 2, 4);
        x.move(2);
        x.move(0);
        x.move(3);
        x.move(1);
        addressees(x, "in the order of posting", 2, 0, 3, 1);
        x.deliver(1);
        addressees(x, "after one of the middle", 2, 3, 1);
        x.deliver(2);
        addressees(x, "after the last", 2, 3);
        check.same("token 0 came", 0, x.token(0, 2));
        check.same("token 1 came", 0, x.token(1, 2));
        check.same("token 2 did not", 1, x.token(2, 2));
        check.same("token 3 did not", 1, x.token(3, 2));
    }

    private static void loseTakesOneOut() {
        CountingNetwork x = withTokens(4, 2, 3);
        x.move(0);
        x.move(1);
        x.move(2);
        x.lose(1);
        addressees(x, "after lose(1)", 0, 2);
        check.same("token 1 is under way still", 1, x.token(1, 2));
        check.same("token 1 is nowhere", CountingNetwork.NONE, x.token(1, 1));
        x.lose(1);
        x.lose(0);
        check.same("none is left", 0, x.letter(-1, 0));
        check.same("all can be resent", 3, x.resend());
    }

    private static void twinComesLast() {
        CountingNetwork x = withTokens(4, 2, 3);
        x.move(0);
        x.move(1);
        x.move(2);
        x.twin(1);
        addressees(x, "after twin(1)", 0, 1, 2, 1);
        x.twin(0);
        addressees(x, "after twin(0)", 0, 1, 2, 1, 0);
        check.same("the twin brings the token", 1, x.deliver(4));
        check.same("the first does not again", 0, x.deliver(0));
        addressees(x, "after both", 1, 2, 1);
        x.lose(0);
        check.same("the twin of a lost one brings the token", 1, x.deliver(1));
    }

    private static void twinOfAnOldLetterStaysOld() {
        CountingNetwork x = withTokens(4, 2, 1);
        x.move(0);
        x.twin(0);
        x.deliver(0);
        x.move(0);
        x.move(0);
        x.twin(0);
        check.same("station of the old twin", 0, x.letter(2, 1));
        check.same("the old twin", 0, x.deliver(2));
        check.same("the old letter", 0, x.deliver(0));
        check.same("the new letter", 1, x.deliver(0));
    }

    private static void twinRefusesWhenFull() {
        CountingNetwork x = withTokens(2, 1, 1);
        check.refusedDeed("twin(0) of none", IndexOutOfBoundsException.class, () -> x.twin(0));
        x.move(0);
        for (int n = 1; n < 60; n++) {
            x.twin(n - 1);
        }
        check.same("60 letters", 60, x.letter(-1, 0));
        int[] before = Check.stateOf(x);
        check.refusedDeed("twin when full", IllegalStateException.class, () -> x.twin(59));
        check.refusedDeed("twin(60) when full", IndexOutOfBoundsException.class, () -> x.twin(60));
        check.refusedDeed("twin(-1) when full", IndexOutOfBoundsException.class, () -> x.twin(-1));
        check.row("a refused twin changes nothing", before, Check.stateOf(x));
        x.lose(59);
        x.twin(0);
        check.same("60 letters again", 60, x.letter(-1, 0));
        check.same("deliver the last", 1, x.deliver(59));
        for (int n = 59; n > 0; n--) {
            check.same("deliver the rest", 0, x.deliver(0));
        }
    }

    private static void letterTells() {
        CountingNetwork x = withTokens(4, 3, 4);
        check.same("letter(-1, 0)", 0, x.letter(-1, 0));
        check.same("letter(-1, 77)", 0, x.letter(-1, 77));
        x.move(3);
        x.move(1);
        x.deliver(0);
        x.move(3);
        x.move(3);
        check.same("letter(-1, -5)", 2, x.letter(-1, -5));
        check.same("letter(0, 0)", 1, x.letter(0, 0));
        check.same("letter(0, 1)", 0, x.letter(0, 1));
        check.same("letter(1, 0)", 3, x.letter(1, 0));
        check.same("letter(1, 1)", 1, x.letter(1, 1));
        for (int what : new int[] {Integer.MIN_VALUE, -1, 2, Integer.MAX_VALUE}) {
            check.refused("letter(1, " + what + ")", IllegalArgumentException.class, () -> x.letter(1, what));
            check.refused("letter(2, " + what + ")", IndexOutOfBoundsException.class, () -> x.letter(2, what));
        }
    }

    private static void resendPostsWhatIsMissing() {
        CountingNetwork x = withTokens(4, 2, 6);
        check.same("nobody is under way", 0, x.resend());
        x.move(4);
        x.move(2);
        x.move(0);
        x.move(5);
        check.same("all have letters", 0, x.resend());
        x.deliver(3);
        x.lose(2);
        x.lose(0);
        addressees(x, "before", 2);
        check.same("two are missing", 2, x.resend());
        addressees(x, "from the least on", 2, 0, 4);
        check.same("none is missing", 0, x.resend());
        check.same("deliver", 1, x.deliver(2));
        check.same("4 came", 0, x.token(4, 1));
        x.move(4);
        x.move(4);
        x.lose(2);
        check.same("one is missing", 1, x.resend());
        check.same("to its next's station", 1, x.letter(2, 1));
        x.lose(2);
        x.station(0, true);
        x.station(1, true);
        check.same("stations that are down hinder no resending", 1, x.resend());
    }

    private static void resendStopsWhenFull() {
        CountingNetwork x = withTokens(2, 1, 40);
        for (int t = 0; t < 40; t++) {
            x.move(t);
        }
        for (int n = 0; n < 39; n++) {
            x.lose(0);
        }
        for (int n = 0; n < 57; n++) {
            x.twin(0);
        }
        check.same("58 letters", 58, x.letter(-1, 0));
        check.same("room for two", 2, x.resend());
        check.same("the least", 0, x.letter(58, 0));
        check.same("the one behind", 1, x.letter(59, 0));
        check.same("no room", 0, x.resend());
        check.same("60 letters", 60, x.letter(-1, 0));
    }

    private static void oldLettersDoNotCountForResending() {
        CountingNetwork x = withTokens(4, 2, 1);
        x.move(0);
        x.twin(0);
        x.deliver(0);
        x.move(0);
        x.move(0);
        x.lose(1);
        addressees(x, "of the old way", 0);
        check.same("resend", 1, x.resend());
        addressees(x, "of both ways", 0, 0);
        check.same("station of the new one", 1, x.letter(1, 1));
    }

    private static void resentLettersAreOfTheSameWay() {
        CountingNetwork x = withTokens(4, 2, 1);
        x.move(0);
        x.lose(0);
        x.resend();
        x.twin(0);
        check.same("the resent one", 1, x.deliver(0));
        check.same("its twin", 0, x.deliver(0));
    }

    private static void stationGoesDownAndUp() {
        CountingNetwork x = withTokens(8, 6, 8);
        for (int t = 0; t < 8; t++) {
            x.move(t);
        }
        int[] before = Check.stateOf(x);
        x.station(0, true);
        x.station(0, true);
        check.row("going down changes no answers", before, Check.stateOf(x));
        check.same("down", 0, x.deliver(0));
        x.station(5, true);
        x.station(0, false);
        check.same("up", 1, x.deliver(0));
        x.station(0, true);
        check.same("down", 0, x.deliver(0));
        x.station(0, false);
        x.station(0, false);
        check.same("up", 1, x.deliver(0));
        x.station(3, false);
        check.same("up", 1, x.deliver(0));
    }

    private static void wrongLetters() {
        CountingNetwork x = withTokens(4, 2, 2);
        check.refused("deliver(0) of none", IndexOutOfBoundsException.class, () -> x.deliver(0));
        check.refusedDeed("lose(0) of none", IndexOutOfBoundsException.class, () -> x.lose(0));
        check.refused("letter(0, 0) of none", IndexOutOfBoundsException.class, () -> x.letter(0, 0));
        x.move(0);
        x.move(1);
        int[] before = Check.stateOf(x);
        for (int i : new int[] {Integer.MIN_VALUE, -2, -1, 2, 60, Integer.MAX_VALUE}) {
            check.refused("deliver(" + i + ")", IndexOutOfBoundsException.class, () -> x.deliver(i));
            check.refusedDeed("lose(" + i + ")", IndexOutOfBoundsException.class, () -> x.lose(i));
            check.refusedDeed("twin(" + i + ")", IndexOutOfBoundsException.class, () -> x.twin(i));
            if (i != -1) {
                check.refused("letter(" + i + ", 0)", IndexOutOfBoundsException.class, () -> x.letter(i, 0));
            }
        }
        check.row("refused calls change nothing", before, Check.stateOf(x));
    }

    private static void wrongStations() {
        for (int stations = 1; stations <= 6; stations++) {
            CountingNetwork x = Check.network(8, stations);
            for (int s : new int[] {Integer.MIN_VALUE, -1, stations, 7, Integer.MAX_VALUE}) {
                check.refusedDeed("station(" + s + ", true)", IllegalArgumentException.class, () -> x.station(s, true));
                check.refusedDeed("station(" + s + ", false)", IllegalArgumentException.class, () -> x.station(s, false));
            }
        }
    }
}

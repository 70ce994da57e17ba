/** The edges of promises 7 to 11: a test for each sentence of the document that names one. */
public final class LetterEdgesTest {
    private static final int NONE = CountingNetwork.NONE;
    private static final int MIN = Integer.MIN_VALUE;
    private static final int MAX = Integer.MAX_VALUE;

    private static final Check check = new Check();

    public static void main(String[] args) {
        thereIsNoLetterToDeliver();
        thereIsNoLetterToLose();
        aDeliveredLetterLeavesTheBag();
        itsStationIsDown();
        onlyItsOwnStationMatters();
        itsTokenIsNotUnderWay();
        itsTokenIsOnAnotherWay();
        aTwinIsOfTheSameWay();
        anOldTwinStaysOld();
        anOldLetterOutlivesManyWays();
        aResentLetterIsOfTheSameWay();
        aLostLetterBringsNobody();
        theLastPlaceOfAFullBag();
        thereIsNoLetterToDouble();
        thereAreSixtyToDouble();
        twinsComeLast();
        howManyThereAre();
        thereIsNoLetterToAskOf();
        anotherWhatOfALetter();
        resendingWithNobodyUnderWay();
        resendingOnlyWhereNoneLies();
        resendingIsFromTheLeastOn();
        resendingForTheWayItIsOn();
        resendingAsLongAsThereIsRoom();
        resendingPassesOverThoseThatHaveOne();
        resendingAfterTwoHundred();
        check.end();
    }

    private static CountingNetwork underWay(int tokens) {
        CountingNetwork x = Check.network(4, 2);
        for (int t = 0; t < tokens; t++) {
            x.enter(t % 4, false);
            x.move(t);
        }
        return x;
    }

    private static CountingNetwork withTwins(int letters) {
        CountingNetwork x = underWay(1);
        for (int n = 1; n < letters; n++) {
            x.twin(n - 1);
        }
        return x;
    }

    private static void addressees(String when, CountingNetwork x, int... want) {
        int[] got = new int[x.letter(-1, 0)];
        for (int i = 0; i < got.length; i++) {
            got[i] = x.letter(i, 0);
        }
        check.row("letters " + when, want, got);
    }

    // Promise 7: "IndexOutOfBoundsException if there is none such."
    private static void thereIsNoLetterToDeliver() {
        for (int letters : new int[] {0, 1, 2, 60}) {
            CountingNetwork x = letters == 0 ? new CountingNetwork() : withTwins(letters);
            for (int i : new int[] {MIN, -2, -1, letters, letters + 1, 60, 61, MAX}) {
                check.refused("deliver(" + i + ") of " + letters, Check.INDEX, () -> x.deliver(i));
            }
            check.same("none went", letters, x.letter(-1, 0));
            if (letters > 0) {
                check.same("the last one", 1, x.deliver(letters - 1));
                check.refused("it is gone", Check.INDEX, () -> x.deliver(letters - 1));
            }
        }
    }

    // Promise 8: "IndexOutOfBoundsException if there is none such."
    private static void thereIsNoLetterToLose() {
        for (int letters : new int[] {0, 1, 2, 60}) {
            CountingNetwork x = letters == 0 ? new CountingNetwork() : withTwins(letters);
            for (int i : new int[] {MIN, -2, -1, letters, letters + 1, 60, 61, MAX}) {
                check.refusedDeed("lose(" + i + ") of " + letters, Check.INDEX, () -> x.lose(i));
            }
            check.same("none went", letters, x.letter(-1, 0));
            if (letters > 0) {
                x.lose(letters - 1);
                check.same("one went", letters - 1, x.letter(-1, 0));
                check.refusedDeed("it is gone", Check.INDEX, () -> x.lose(letters - 1));
            }
        }
    }

    // "A letter that is DELIVERED leaves the bag"
    private static void aDeliveredLetterLeavesTheBag() {
        CountingNetwork x = underWay(4);
        check.same("deliver the second", 1, x.deliver(1));
        addressees("behind it move up", x, 0, 2, 3);
        check.same("deliver the last", 1, x.deliver(2));
        addressees("after the last", x, 0, 2);
        check.same("deliver the first", 1, x.deliver(0));
        addressees("after the first", x, 2);
        check.same("deliver the only one", 1, x.deliver(0));
        addressees("after all", x);
        for (int t = 0; t < 4; t++) {
            check.same("token " + t + " came", 0, x.token(t, 1));
        }
    }

    // "if its station is down, that is all"
    private static void itsStationIsDown() {
        CountingNetwork x = withTwins(2);
        x.station(0, true);
        check.same("deliver", 0, x.deliver(0));
        check.same("it left the bag", 1, x.letter(-1, 0));
        check.same("the token is under way", 1, x.token(0, 2));
        check.same("the token is nowhere", NONE, x.token(0, 1));
        x.station(0, false);
        check.same("up again: deliver its twin", 1, x.deliver(0));
        check.same("the token is there", 0, x.token(0, 1));
        check.same("under way no more", 0, x.token(0, 2));
    }

    // Neither the station that the token left nor another one keeps a letter from bringing it.
    private static void onlyItsOwnStationMatters() {
        CountingNetwork x = Check.network(4, 3);
        x.enter(0, false);
        x.settle(2);
        x.move(0);
        check.same("to station 1", 1, x.letter(0, 1));
        x.station(0, true);
        x.station(2, true);
        x.twin(0);
        check.same("deliver", 1, x.deliver(1));
        check.same("the token is there", 1, x.token(0, 1));
    }

    // "if the letter's token is under way"
    private static void itsTokenIsNotUnderWay() {
        CountingNetwork x = new CountingNetwork();
        x.enter(0, false);
        x.move(0);
        for (int n = 0; n < 3; n++) {
            x.twin(0);
        }
        check.same("the first", 1, x.deliver(0));
        check.same("it is there", 0, x.deliver(0));
        check.same("it is there still", 0, x.token(0, 1));
        x.move(0);
        check.same("it went through", 0, x.deliver(0));
        x.move(0);
        check.same("it is done", 0, x.deliver(0));
        check.same("it is done still", 2, x.token(0, 2));
        check.same("no letter is left", 0, x.letter(-1, 0));
    }

    /** A token that is on its third way, to station 0 as on its first one, with a letter of each of the two. */
    private static CountingNetwork onItsThirdWay() {
        CountingNetwork x = withTwins(2);
        x.deliver(0);
        x.move(0);
        x.move(0);
        x.deliver(1);
        x.move(0);
        x.move(0);
        check.same("two letters", 2, x.letter(-1, 0));
        check.same("the old one is to station 0", 0, x.letter(0, 1));
        check.same("the new one is to station 0", 0, x.letter(1, 1));
        return x;
    }

    // "and the letter was posted for the way that it is on now"
    private static void itsTokenIsOnAnotherWay() {
        CountingNetwork x = onItsThirdWay();
        check.same("the old letter", 0, x.deliver(0));
        check.same("it is under way still", 1, x.token(0, 2));
        check.same("it left station 1", 1, x.token(0, 1));
        check.same("the new letter", 1, x.deliver(0));
        check.same("it is at station 0", 0, x.token(0, 1));
        x = onItsThirdWay();
        check.same("the new letter first", 1, x.deliver(1));
        check.same("the old letter then", 0, x.deliver(0));
    }

    // "(or is a twin of such a letter)"
    private static void aTwinIsOfTheSameWay() {
        CountingNetwork x = onItsThirdWay();
        x.twin(1);
        x.lose(1);
        check.same("a twin of the lost one", 1, x.deliver(1));
        x = onItsThirdWay();
        x.twin(1);
        x.twin(2);
        check.same("a twin of a twin", 1, x.deliver(3));
        check.same("a twin, when it is there", 0, x.deliver(2));
    }

    private static void anOldTwinStaysOld() {
        CountingNetwork x = onItsThirdWay();
        x.twin(0);
        x.twin(2);
        check.same("a twin of an old one", 0, x.deliver(2));
        check.same("a twin of such a twin", 0, x.deliver(2));
        check.same("it is under way still", 1, x.token(0, 2));
        check.same("the new letter", 1, x.deliver(1));
    }

    private static void anOldLetterOutlivesManyWays() {
        CountingNetwork x = Check.network(8, 2);
        x.enter(0, false);
        x.move(0);
        x.twin(0);
        for (int column = 0; column < 5; column++) {
            check.same("the letter to column " + column, 1, x.deliver(1));
            x.move(0);
            check.same("a letter", 2, x.move(0));
            x.twin(0);
            check.same("a twin of the first one", 0, x.deliver(2));
        }
        check.same("the first one", 0, x.deliver(0));
        check.same("the letter to column 5", 1, x.deliver(0));
    }

    private static void aResentLetterIsOfTheSameWay() {
        CountingNetwork x = onItsThirdWay();
        x.lose(1);
        check.same("resend", 1, x.resend());
        x.twin(1);
        check.same("the twin of a resent one", 1, x.deliver(2));
        check.same("the resent one", 0, x.deliver(1));
        check.same("the old one", 0, x.deliver(0));
    }

    // "Letter i is lost."
    private static void aLostLetterBringsNobody() {
        CountingNetwork x = underWay(3);
        x.lose(1);
        addressees("after the second", x, 0, 2);
        x.lose(1);
        addressees("after the last", x, 0);
        x.lose(0);
        addressees("after all", x);
        for (int t = 0; t < 3; t++) {
            check.same("token " + t + " is under way", 1, x.token(t, 2));
            check.same("token " + t + " waits", 3, x.move(t));
        }
    }

    private static void theLastPlaceOfAFullBag() {
        CountingNetwork x = withTwins(58);
        x.enter(1, false);
        x.enter(2, false);
        check.same("the 59th", 2, x.move(1));
        check.same("the 60th", 2, x.move(2));
        x.lose(59);
        check.same("59 are left", 59, x.letter(-1, 0));
        check.same("the 59th is there", 1, x.letter(58, 0));
        check.same("resend", 1, x.resend());
        check.same("deliver the 60th", 1, x.deliver(59));
        check.same("token 2 came", 0, x.token(2, 2));
        x.lose(0);
        check.same("the 59th is the 58th now", 1, x.letter(57, 0));
        check.same("deliver it", 1, x.deliver(57));
    }

    // Promise 9: "IndexOutOfBoundsException if there is none such"; it is named before the full bag.
    private static void thereIsNoLetterToDouble() {
        for (int letters : new int[] {0, 1, 2, 59, 60}) {
            CountingNetwork x = letters == 0 ? new CountingNetwork() : withTwins(letters);
            for (int i : new int[] {MIN, -2, -1, letters, letters + 1, 60, 61, MAX}) {
                check.refusedDeed("twin(" + i + ") of " + letters, Check.INDEX, () -> x.twin(i));
            }
            check.same("none came", letters, x.letter(-1, 0));
        }
    }

    // Promise 9: "IllegalStateException if there are 60."; "Letters lie in a bag .. (at most 60)"
    private static void thereAreSixtyToDouble() {
        CountingNetwork x = withTwins(59);
        x.twin(58);
        check.same("60", 60, x.letter(-1, 0));
        for (int i : new int[] {0, 30, 59}) {
            check.refusedDeed("twin(" + i + ") of 60", Check.STATE, () -> x.twin(i));
        }
        check.same("60 still", 60, x.letter(-1, 0));
        x.lose(0);
        x.twin(0);
        check.refusedDeed("twin(0) of 60 again", Check.STATE, () -> x.twin(0));
        x.deliver(59);
        x.twin(58);
        check.same("60 again", 60, x.letter(-1, 0));
    }

    // "TWINS of a letter come last into the bag."
    private static void twinsComeLast() {
        CountingNetwork x = underWay(3);
        x.twin(0);
        addressees("after a twin of the first", x, 0, 1, 2, 0);
        x.twin(1);
        addressees("after a twin of the second", x, 0, 1, 2, 0, 1);
        x.twin(4);
        addressees("after a twin of the last", x, 0, 1, 2, 0, 1, 1);
        x.deliver(0);
        x.move(0);
        x.move(0);
        check.same("a letter to station 1", 1, x.letter(5, 1));
        x.twin(5);
        check.same("its twin's token", 0, x.letter(6, 0));
        check.same("its twin's station", 1, x.letter(6, 1));
    }

    // Promise 10: "How many letters there are if i is -1 (whatever what is)."
    private static void howManyThereAre() {
        for (int letters : new int[] {0, 1, 2, 59, 60}) {
            CountingNetwork x = letters == 0 ? new CountingNetwork() : withTwins(letters);
            for (int what : new int[] {MIN, -2, -1, 0, 1, 2, 3, 60, MAX}) {
                check.same("letter(-1, " + what + ")", letters, x.letter(-1, what));
            }
        }
    }

    // Promise 10: "IndexOutOfBoundsException if there is none such"; it is named before the what.
    private static void thereIsNoLetterToAskOf() {
        for (int letters : new int[] {0, 1, 2, 60}) {
            CountingNetwork x = letters == 0 ? new CountingNetwork() : withTwins(letters);
            for (int i : new int[] {MIN, -3, -2, letters, letters + 1, 60, 61, MAX}) {
                for (int what = -1; what <= 2; what++) {
                    int other = what;
                    check.refused("letter(" + i + ", " + what + ")", Check.INDEX, () -> x.letter(i, other));
                }
            }
            for (int i = 0; i < letters; i++) {
                check.same("letter(" + i + ", 0)", 0, x.letter(i, 0));
                check.same("letter(" + i + ", 1)", 0, x.letter(i, 1));
            }
        }
    }

    // Promise 10: "IllegalArgumentException for another what."
    private static void anotherWhatOfALetter() {
        CountingNetwork x = withTwins(60);
        for (int i : new int[] {0, 59}) {
            for (int what : new int[] {MIN, -2, -1, 2, 3, MAX}) {
                check.refused("letter(" + i + ", " + what + ")", Check.ARGUMENT, () -> x.letter(i, what));
            }
        }
        x.enter(3, false);
        x.lose(0);
        x.move(1);
        check.same("letter(59, 0)", 1, x.letter(59, 0));
        check.same("letter(59, 1)", 0, x.letter(59, 1));
    }

    // Promise 11, "RESENDING posts a letter for each token .. that is under way"
    private static void resendingWithNobodyUnderWay() {
        CountingNetwork x = new CountingNetwork();
        check.same("no tokens", 0, x.resend());
        x.enter(0, false);
        check.same("outside", 0, x.resend());
        x.settle(1);
        check.same("at a station", 0, x.resend());
        x.settle(1);
        check.same("before the exit", 0, x.resend());
        x.settle(1);
        check.same("done", 0, x.resend());
        check.same("no letters", 0, x.letter(-1, 0));
    }

    // "and for whose way none lies in the bag"
    private static void resendingOnlyWhereNoneLies() {
        CountingNetwork x = underWay(1);
        check.same("its letter lies there", 0, x.resend());
        x.twin(0);
        x.lose(0);
        check.same("its letter's twin lies there", 0, x.resend());
        x.lose(0);
        check.same("none lies there", 1, x.resend());
        check.same("the resent one lies there", 0, x.resend());
        x.station(0, true);
        x.deliver(0);
        check.same("it went to a down station", 1, x.resend());
        check.same("one letter", 1, x.letter(-1, 0));
        check.same("of the token", 0, x.letter(0, 0));
        check.same("to its next's station", 0, x.letter(0, 1));
    }

    // "from the least on"
    private static void resendingIsFromTheLeastOn() {
        CountingNetwork x = Check.network(4, 2);
        for (int t = 0; t < 5; t++) {
            x.enter(0, false);
        }
        for (int t : new int[] {4, 0, 3, 1, 2}) {
            x.move(t);
        }
        x.lose(3);
        x.lose(1);
        x.lose(0);
        addressees("before", x, 3, 2);
        check.same("resend", 3, x.resend());
        addressees("after", x, 3, 2, 0, 1, 4);
    }

    private static void resendingForTheWayItIsOn() {
        CountingNetwork x = onItsThirdWay();
        x.lose(1);
        check.same("a letter of an old way does not count", 1, x.resend());
        check.same("two letters", 2, x.letter(-1, 0));
        check.same("the old one", 0, x.deliver(0));
        check.same("the new one", 1, x.deliver(0));
        x = onItsThirdWay();
        x.lose(0);
        check.same("a letter of the way it is on counts", 0, x.resend());
    }

    // "as long as there is room"
    private static void resendingAsLongAsThereIsRoom() {
        for (int room = 0; room <= 4; room++) {
            CountingNetwork x = underWay(4);
            for (int n = 0; n < 3; n++) {
                x.lose(0);
            }
            while (x.letter(-1, 0) < 60 - room) {
                x.twin(0);
            }
            int posted = Math.min(room, 3);
            check.same("resend with room for " + room, posted, x.resend());
            check.same("letters", 60 - room + posted, x.letter(-1, 0));
            for (int t = 0; t < posted; t++) {
                check.same("a letter for " + t, t, x.letter(60 - room + t, 0));
            }
            check.same("resend again", 0, x.resend());
        }
    }

    private static void resendingPassesOverThoseThatHaveOne() {
        CountingNetwork x = underWay(40);
        x.lose(39);
        x.lose(20);
        x.lose(0);
        check.same("resend", 3, x.resend());
        check.same("letters", 40, x.letter(-1, 0));
        check.same("the least", 0, x.letter(37, 0));
        check.same("the next", 20, x.letter(38, 0));
        check.same("the greatest", 39, x.letter(39, 0));
    }

    private static void resendingAfterTwoHundred() {
        CountingNetwork x = new CountingNetwork();
        for (int t = 0; t < 199; t++) {
            x.enter(0, false);
            if (t % 40 == 38) {
                x.settle(3);
            }
        }
        check.same("all are done", 0, x.about(2));
        check.same("the 200th", 199, x.enter(0, false));
        check.same("it is not under way", 0, x.resend());
        x.move(199);
        x.lose(0);
        check.same("it is under way", 1, x.resend());
        check.same("its letter", 199, x.letter(0, 0));
    }
}

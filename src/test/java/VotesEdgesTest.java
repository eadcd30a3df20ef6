/** The boundary cases of the promises 26 and 27: votes. */
public final class VotesEdgesTest extends Edges {
    public static void main(String[] args) {
        new VotesEdgesTest().ask();
    }

    /** A question about two planks. */
    interface TwoPlanks {
        int answer(RopeChoices x, int plank, int other);
    }

    @Override
    void askAll() {
        refused("26 votesFor", RopeChoices::votesFor);
        refused("27 winnerOf", RopeChoices::winnerOf);
        endsAreAllowed();
        votesForNeedsLessDiscontent();
        votesForFromNoneToTwelve();
        winnerOfHasMoreVotes();
        winnerOfAsManyIsTheSmallerNumber();
    }

    private void refused(String what, TwoPlanks question) {
        noSuchPlanks(what + " of three", Bridges.of(3, 30, 12), question);
        noSuchPlanks(what + " of none", new RopeChoices(), question);
        samePlanks(what + " of three", Bridges.of(3, 30, 12), question);
        samePlanks(what + " of none", new RopeChoices(), question);
    }

    private void noSuchPlanks(String what, RopeChoices x, TwoPlanks question) {
        dueNoSuchPlank(what + ", the first", x, plank -> question.answer(x, plank, 20));
        dueNoSuchPlank(what + ", the second", x, plank -> question.answer(x, 20, plank));
        dueNoSuchPlank(what + ", both are the same, and no plank", x,
            plank -> question.answer(x, plank, plank));
    }

    private void samePlanks(String what, RopeChoices x, TwoPlanks question) {
        for (int plank : new int[] {0, 1, 20, 39, 40}) {
            dueUnchanged(what + ", both are the same: " + plank, ARGUMENT, x,
                () -> question.answer(x, plank, plank));
        }
    }

    private void endsAreAllowed() {
        RopeChoices x = Bridges.of(3, 30, 12);
        dueUnchanged("26 the first plank", 2, x, () -> x.votesFor(0, 40));
        dueUnchanged("26 the last plank", 1, x, () -> x.votesFor(40, 0));
        dueUnchanged("27 the first plank", 0, x, () -> x.winnerOf(0, 40));
        dueUnchanged("27 the last plank", 0, x, () -> x.winnerOf(40, 0));
    }

    private void votesForNeedsLessDiscontent() {
        RopeChoices x = Bridges.of(20);
        due("26 as much is not less", 0, () -> x.votesFor(10, 30));
        due("26 as much, the other way", 0, () -> x.votesFor(30, 10));
        due("26 one less", 1, () -> x.votesFor(11, 30));
        due("26 one more", 0, () -> x.votesFor(30, 11));
        due("26 the wished one", 1, () -> x.votesFor(20, 21));
        due("26 the one beside it", 0, () -> x.votesFor(21, 20));
        due("26 the ends are as far", 0, () -> x.votesFor(0, 40));
        x.persuade(0, 21);
        due("26 the last plank is nearer", 1, () -> x.votesFor(40, 0));
        due("26 the first plank is not", 0, () -> x.votesFor(0, 40));
        x.persuade(0, 19);
        due("26 the first plank is nearer", 1, () -> x.votesFor(0, 40));
        due("26 the last plank is not", 0, () -> x.votesFor(40, 0));
    }

    private void votesForFromNoneToTwelve() {
        RopeChoices x = new RopeChoices();
        for (int i = 0; i < 12; i++) {
            int due = i;
            due("26 of " + i, due, () -> x.votesFor(12, 13));
            due("26 of " + i + " for the other one", 0, () -> x.votesFor(13, 12));
            x.send(i % 5, i + 1, 3, 2);
        }
        due("26 of twelve", 12, () -> x.votesFor(12, 13));
        due("26 of twelve for the other one", 0, () -> x.votesFor(13, 12));
        due("26 half of twelve", 6, () -> x.votesFor(6, 7));
        due("26 the other half", 6, () -> x.votesFor(7, 6));
        due("26 one of twelve is as far from both", 5, () -> x.votesFor(8, 6));
        due("26 one of twelve is as far, the other way", 6, () -> x.votesFor(6, 8));
    }

    private void winnerOfHasMoreVotes() {
        RopeChoices x = Bridges.of(10, 30, 31);
        due("27 the greater number has one vote more", 30, () -> x.winnerOf(10, 30));
        due("27 also when it is said first", 30, () -> x.winnerOf(30, 10));
        due("27 the last plank", 40, () -> x.winnerOf(0, 40));
        x.persuade(2, 9);
        due("27 the smaller number has one vote more", 10, () -> x.winnerOf(10, 30));
        due("27 also when it is said second", 10, () -> x.winnerOf(30, 10));
        due("27 the first plank", 0, () -> x.winnerOf(40, 0));
        RopeChoices one = Bridges.of(20);
        due("27 of one voter", 21, () -> one.winnerOf(21, 18));
        due("27 of one voter", 21, () -> one.winnerOf(18, 21));
    }

    private void winnerOfAsManyIsTheSmallerNumber() {
        RopeChoices none = new RopeChoices();
        due("27 none votes", 0, () -> none.winnerOf(40, 0));
        due("27 none votes", 0, () -> none.winnerOf(0, 40));
        due("27 none votes", 39, () -> none.winnerOf(40, 39));
        RopeChoices x = Bridges.of(10, 30);
        due("27 one vote each", 10, () -> x.winnerOf(30, 10));
        due("27 one vote each", 10, () -> x.winnerOf(10, 30));
        RopeChoices far = Bridges.of(20);
        due("27 as far from both", 10, () -> far.winnerOf(30, 10));
        due("27 as far from both", 10, () -> far.winnerOf(10, 30));
        RopeChoices twelve = Bridges.of(0, 0, 0, 0, 0, 0, 40, 40, 40, 40, 40, 40);
        due("27 six votes each", 19, () -> twelve.winnerOf(20, 19));
        due("27 six votes each", 19, () -> twelve.winnerOf(19, 20));
    }
}

/**
 * What the tests of the boundary cases have in common. No object is asked more than 512 times,
 * as later answers are free; so a loop over many questions asks a new bridge each time.
 */
abstract class Edges {
    static final Object INDEX = IndexOutOfBoundsException.class;
    static final Object ARGUMENT = IllegalArgumentException.class;
    static final Object STATE = IllegalStateException.class;

    static final int FAR_BELOW = Integer.MIN_VALUE;
    static final int FAR_ABOVE = Integer.MAX_VALUE;
    static final int[] NO_PLANKS = {-1, 41, FAR_BELOW, FAR_ABOVE};
    static final int[] NO_VILLAGES = {-1, 5, FAR_BELOW, FAR_ABOVE};
    static final int[] NO_ROUNDS = {0, 51, -1, FAR_BELOW, FAR_ABOVE};

    /** A question or a call for one number, as a delegate's or a plank's. */
    interface One {
        Object answer(int number);
    }

    private final Answers answers = new Answers();

    /** Asks all, and ends with the exit code 1 if an answer was not as due. */
    final void ask() {
        askAll();
        answers.end(getClass().getSimpleName());
    }

    abstract void askAll();

    final void due(String what, Object due, Answers.Call call) {
        answers.due(what, due, call);
    }

    /** The call answers so, or throws so, and nothing is changed by it. */
    final void dueUnchanged(String what, Object due, RopeChoices x, Answers.Call call) {
        String before = Bridges.everythingOf(x);
        answers.due(what, due, call);
        answers.due(what + ": nothing is changed", before, () -> Bridges.everythingOf(x));
    }

    final void duePlanks(String what, RopeChoices x, int... planks) {
        due(what + ": delegates()", planks.length, x::delegates);
        for (int i = 0; i < planks.length; i++) {
            int delegate = i;
            due(what + ": plankOf(" + i + ")", planks[i], () -> x.plankOf(delegate));
        }
    }

    /** Numbers that no delegate has: of three, of none, and of the twelve that are the most. */
    final void dueNoSuchDelegate(String what, Question question) {
        for (int delegate : new int[] {-1, 3, 11, 12, FAR_BELOW, FAR_ABOVE}) {
            dueNotOneOf(what + " of three", Bridges.of(3, 30, 12), delegate, question);
        }
        for (int delegate : new int[] {-1, 0, 1, FAR_BELOW, FAR_ABOVE}) {
            dueNotOneOf(what + " of none", new RopeChoices(), delegate, question);
        }
        for (int delegate : new int[] {-1, 12, 13, FAR_BELOW, FAR_ABOVE}) {
            dueNotOneOf(what + " of twelve", Bridges.full(), delegate, question);
        }
        RopeChoices eleven = Bridges.full();
        eleven.recall(0);
        dueNotOneOf(what + " of eleven, the number that was the last one", eleven, 11, question);
    }

    private void dueNotOneOf(String what, RopeChoices x, int delegate, Question question) {
        dueUnchanged(what + ": " + delegate, INDEX, x, () -> question.answer(x, delegate));
    }

    /** A call with a delegate's number, at a bridge. */
    interface Question {
        Object answer(RopeChoices x, int delegate);
    }

    /** A call with a plank's number. */
    final void dueNoSuchPlank(String what, RopeChoices x, One call) {
        for (int plank : NO_PLANKS) {
            dueUnchanged(what + ": plank " + plank, INDEX, x, () -> call.answer(plank));
        }
    }

    final void dueNoSuchVillage(String what, RopeChoices x, One call) {
        for (int village : NO_VILLAGES) {
            dueUnchanged(what + ": village " + village, INDEX, x, () -> call.answer(village));
        }
    }

    final void dueBadRounds(String what, RopeChoices x, One call) {
        for (int rounds : NO_ROUNDS) {
            dueUnchanged(what + ": rounds " + rounds, ARGUMENT, x, () -> call.answer(rounds));
        }
    }
}

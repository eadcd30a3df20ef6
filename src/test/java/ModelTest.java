/** Long runs of calls, right and wrong ones, have the answers of the model. */
public final class ModelTest {
    private static final int RUNS = 250;
    private static final int CALLS = 512;
    private static final int[] EDGES = {-1, 41, Integer.MIN_VALUE, Integer.MAX_VALUE};

    private final Answers answers = new Answers();
    private final Numbers numbers;
    private final int run;
    private final RopeChoices x = new RopeChoices();
    private final Model m = new Model();

    /** A fixed sequence of numbers, so that every run of this test makes the same calls. */
    private static final class Numbers {
        private long state;

        Numbers(long start) {
            state = start;
        }

        int below(int bound) {
            state = state * 6364136223846793005L + 1442695040888963407L;
            return (int) ((state >>> 33) % bound);
        }

        /** From least to most; now and then one beside that. */
        int from(int least, int most) {
            if (below(60) == 0) {
                return EDGES[below(EDGES.length)];
            }
            return least - (below(60) == 0 ? 1 : 0) + below(most - least + 1)
                + (below(60) == 0 ? 1 : 0);
        }
    }

    private ModelTest(int run) {
        this.run = run;
        this.numbers = new Numbers(run);
    }

    public static void main(String[] args) {
        int wrong = 0;
        for (int run = 0; run < RUNS; run++) {
            ModelTest test = new ModelTest(run);
            test.makeCalls();
            wrong += test.answers.wrong();
        }
        System.out.println("ModelTest: " + RUNS * CALLS + " calls, " + wrong + " not as due");
        if (wrong != 0) {
            System.exit(1);
        }
    }

    private void makeCalls() {
        // Some runs keep to few delegates, others fill the bridge.
        int most = 1 + numbers.below(12);
        // The digest behind the run is the last of the calls for which an object is used.
        for (int call = 1; call < CALLS; call++) {
            if (numbers.below(3) == 0) {
                change(most);
            } else {
                ask(numbers.below(30));
            }
        }
        same("digest()", x::digest, m::digest);
    }

    private void same(String what, Answers.Call call, Answers.Call model) {
        answers.due("run " + run + ": " + what, Answers.outcomeOf(model), call);
    }

    private int delegate() {
        return numbers.from(0, Math.max(0, m.delegates() - 1));
    }

    private int plank() {
        return numbers.from(0, 40);
    }

    private void change(int most) {
        int kind = numbers.below(12);
        int d = delegate();
        int p = plank();
        if (m.delegates() > most && numbers.below(3) > 0) {
            same("recall(" + d + ")", () -> x.recall(d), () -> m.recall(d));
        } else if (kind < 4 || m.delegates() == 0) {
            int village = numbers.from(0, 4);
            int reach = numbers.from(0, 20);
            int pace = numbers.from(1, 5);
            same("send(" + village + ", " + p + ", " + reach + ", " + pace + ")",
                () -> x.send(village, p, reach, pace), () -> m.send(village, p, reach, pace));
        } else if (kind < 7) {
            same("persuade(" + d + ", " + p + ")", () -> x.persuade(d, p), () -> m.persuade(d, p));
        } else if (kind < 9) {
            same("lead(" + d + ", " + p + ")", () -> x.lead(d, p), () -> m.lead(d, p));
        } else if (kind < 10) {
            int rounds = numbers.below(3) == 0 ? numbers.from(1, 50) : numbers.from(1, 3);
            same("passRounds(" + rounds + ")", () -> x.passRounds(rounds), () -> m.passRounds(rounds));
        } else if (kind < 11) {
            int strength = numbers.below(2) == 0 ? numbers.from(1, 12) : numbers.from(1, 2);
            same("setStrength(" + strength + ")",
                () -> x.setStrength(strength), () -> m.setStrength(strength));
        } else {
            same("recall(" + d + ")", () -> x.recall(d), () -> m.recall(d));
        }
    }

    private void ask(int kind) {
        int d = delegate();
        int p = plank();
        int q = numbers.below(20) == 0 ? p : plank();
        int village = numbers.from(0, 4);
        int rounds = numbers.from(1, 50);
        String of = "(" + d + ")";
        String both = "(" + p + ", " + q + ")";
        switch (kind) {
            case 0 -> same("delegates()", x::delegates, m::delegates);
            case 1 -> same("rounds()", x::rounds, m::rounds);
            case 2 -> same("strength()", x::strength, m::strength);
            case 3 -> same("villageOf" + of, () -> x.villageOf(d), () -> m.villageOf(d));
            case 4 -> same("wishOf" + of, () -> x.wishOf(d), () -> m.wishOf(d));
            case 5 -> same("reachOf" + of, () -> x.reachOf(d), () -> m.reachOf(d));
            case 6 -> same("paceOf" + of, () -> x.paceOf(d), () -> m.paceOf(d));
            case 7 -> same("plankOf" + of, () -> x.plankOf(d), () -> m.plankOf(d));
            case 8 -> same("standingOn(" + p + ")", () -> x.standingOn(p), () -> m.standingOn(p));
            case 9 -> same("spread()", x::spread, m::spread);
            case 10 -> same("isTreaty()", x::isTreaty, m::isTreaty);
            case 11 -> same("compromise()", x::compromise, m::compromise);
            case 12 -> same("compromiseOf(" + village + ")",
                () -> x.compromiseOf(village), () -> m.compromiseOf(village));
            case 13 -> same("compromiseWithout" + of,
                () -> x.compromiseWithout(d), () -> m.compromiseWithout(d));
            case 14 -> same("decisiveOne()", x::decisiveOne, m::decisiveOne);
            case 15 -> same("discontentOf" + of, () -> x.discontentOf(d), () -> m.discontentOf(d));
            case 16 -> same("allDiscontent()", x::allDiscontent, m::allDiscontent);
            case 17 -> same("bestPlank()", x::bestPlank, m::bestPlank);
            case 18 -> same("votesFor" + both, () -> x.votesFor(p, q), () -> m.votesFor(p, q));
            case 19 -> same("winnerOf" + both, () -> x.winnerOf(p, q), () -> m.winnerOf(p, q));
            case 20 -> same("canLeadTo(" + d + ", " + p + ")",
                () -> x.canLeadTo(d, p), () -> m.canLeadTo(d, p));
            case 21 -> same("wouldStepTo" + of, () -> x.wouldStepTo(d), () -> m.wouldStepTo(d));
            case 22 -> same("isStill()", x::isStill, m::isStill);
            case 23 -> same("plankIn(" + d + ", " + rounds + ")",
                () -> x.plankIn(d, rounds), () -> m.plankIn(d, rounds));
            case 24 -> same("compromiseIn(" + rounds + ")",
                () -> x.compromiseIn(rounds), () -> m.compromiseIn(rounds));
            case 25 -> same("roundsUntilTreaty()", x::roundsUntilTreaty, m::roundsUntilTreaty);
            case 26 -> same("roundsUntilStill()", x::roundsUntilStill, m::roundsUntilStill);
            case 27 -> same("bestStand" + of, () -> x.bestStand(d), () -> m.bestStand(d));
            case 28 -> same("meanPlank()", x::meanPlank, m::meanPlank);
            default -> same("digest()", x::digest, m::digest);
        }
    }
}

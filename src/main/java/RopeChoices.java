/**
 * A rope bridge of preferences between villages. What each call promises stands in the project's
 * document, and is not said here again, so that the two can't differ.
 */
public final class RopeChoices {
    private static final int VILLAGES = 5;
    private static final int PLANKS = 41;
    private static final int MOST_DELEGATES = 12;
    private static final int MOST_REACH = 20;
    private static final int MOST_PACE = 5;
    private static final int MOST_STRENGTH = 12;
    private static final int MOST_ROUNDS = 50;
    private static final int FARTHEST_ROUND = 100;
    private static final int TREATY_SPREAD = 2;
    private static final long DIGEST_START = 1933L;
    private static final long DIGEST_FACTOR = 31L;

    private int count;
    private int roundsGone;
    private int plankStrength;

    private final int[] villages;
    private final int[] wishes;
    private final int[] reaches;
    private final int[] paces;
    private final int[] planks;

    // Both are made once and used by every question again, so that no call makes rows of its own.
    private final int[] laterPlanks;
    private final PlankRow row;

    public RopeChoices() {
        count = 0;
        roundsGone = 0;
        plankStrength = MOST_STRENGTH;
        villages = new int[MOST_DELEGATES];
        wishes = new int[MOST_DELEGATES];
        reaches = new int[MOST_DELEGATES];
        paces = new int[MOST_DELEGATES];
        planks = new int[MOST_DELEGATES];
        laterPlanks = new int[MOST_DELEGATES];
        row = new PlankRow();
    }

    // ---- delegates come and go

    public int send(int village, int wish, int reach, int pace)
            throws IndexOutOfBoundsException, IllegalArgumentException, IllegalStateException {
        checkVillage(village);
        checkPlank(wish);
        checkReachAndPace(reach, pace);
        if (count >= MOST_DELEGATES) {
            throw new IllegalStateException("there are 12 delegates");
        }
        if (!hasRoom(planks, wish)) {
            throw new IllegalStateException("there is no room on that plank");
        }
        int delegate = count;
        villages[delegate] = village;
        wishes[delegate] = wish;
        reaches[delegate] = reach;
        paces[delegate] = pace;
        planks[delegate] = wish;
        count = delegate + 1;
        return delegate;
    }

    public int recall(int delegate) throws IndexOutOfBoundsException {
        checkDelegate(delegate);
        int plank = planks[delegate];
        closeGap(villages, delegate);
        closeGap(wishes, delegate);
        closeGap(reaches, delegate);
        closeGap(paces, delegate);
        closeGap(planks, delegate);
        count--;
        return plank;
    }

    public int persuade(int delegate, int wish) throws IndexOutOfBoundsException {
        checkDelegate(delegate);
        checkPlank(wish);
        int before = wishes[delegate];
        wishes[delegate] = wish;
        return before;
    }

    public int lead(int delegate, int plank)
            throws IndexOutOfBoundsException, IllegalStateException {
        checkDelegate(delegate);
        checkPlank(plank);
        if (!isWilling(delegate, plank)) {
            throw new IllegalStateException("this one is not willing to stand there");
        }
        if (!hasPlaceFor(delegate, plank)) {
            throw new IllegalStateException("there is no room on that plank");
        }
        int before = planks[delegate];
        planks[delegate] = plank;
        return before;
    }

    public int setStrength(int strength) throws IllegalArgumentException {
        if (strength < 1 || strength > MOST_STRENGTH) {
            throw new IllegalArgumentException("the strength is not 1 to 12");
        }
        int before = plankStrength;
        plankStrength = strength;
        return before;
    }

    public int passRounds(int rounds) throws IllegalArgumentException {
        checkRounds(rounds);
        roundsGone += rounds;
        return goRounds(planks, rounds);
    }

    // ---- what there is

    public int delegates() {
        return count;
    }

    public int rounds() {
        return roundsGone;
    }

    public int strength() {
        return plankStrength;
    }

    public int villageOf(int delegate) throws IndexOutOfBoundsException {
        checkDelegate(delegate);
        return villages[delegate];
    }

    public int wishOf(int delegate) throws IndexOutOfBoundsException {
        checkDelegate(delegate);
        return wishes[delegate];
    }

    public int reachOf(int delegate) throws IndexOutOfBoundsException {
        checkDelegate(delegate);
        return reaches[delegate];
    }

    public int paceOf(int delegate) throws IndexOutOfBoundsException {
        checkDelegate(delegate);
        return paces[delegate];
    }

    public int plankOf(int delegate) throws IndexOutOfBoundsException {
        checkDelegate(delegate);
        return planks[delegate];
    }

    public int standingOn(int plank) throws IndexOutOfBoundsException {
        checkPlank(plank);
        return crowdOn(planks, plank);
    }

    public int spread() {
        return distanceOfEnds(planks);
    }

    public boolean isTreaty() {
        return agreesAt(planks);
    }

    // ---- compromises

    public int compromise() throws IllegalStateException {
        checkSomeoneThere();
        return middleOfAll(planks);
    }

    public int compromiseOf(int village) throws IndexOutOfBoundsException, IllegalStateException {
        checkVillage(village);
        gatherVillage(village);
        if (row.isBare()) {
            throw new IllegalStateException("the village has no delegates");
        }
        return row.middle();
    }

    public int compromiseWithout(int delegate)
            throws IndexOutOfBoundsException, IllegalStateException {
        checkDelegate(delegate);
        gatherOthers(delegate);
        if (row.isBare()) {
            throw new IllegalStateException("there are no other delegates");
        }
        return row.middle();
    }

    public int decisiveOne() throws IllegalStateException {
        checkSomeoneThere();
        int middle = middleOfAll(planks);
        int delegate = 0;
        // Somebody stands on the median, so the last one is it, if none before is.
        while (delegate < count - 1 && planks[delegate] != middle) {
            delegate++;
        }
        return delegate;
    }

    public int discontentOf(int delegate) throws IndexOutOfBoundsException {
        checkDelegate(delegate);
        return discontent(delegate, middleOfAll(planks));
    }

    public int allDiscontent() {
        return discontentOfAll(middleOfAll(planks));
    }

    public int bestPlank() throws IllegalStateException {
        checkSomeoneThere();
        int best = 0;
        int least = discontentOfAll(0);
        for (int plank = 1; plank < PLANKS; plank++) {
            int sum = discontentOfAll(plank);
            if (sum < least) {
                least = sum;
                best = plank;
            }
        }
        return best;
    }

    // ---- votes

    public int votesFor(int plank, int against)
            throws IndexOutOfBoundsException, IllegalArgumentException {
        checkTwoPlanks(plank, against);
        return countVotes(plank, against);
    }

    public int winnerOf(int plank, int other)
            throws IndexOutOfBoundsException, IllegalArgumentException {
        checkTwoPlanks(plank, other);
        int votes = countVotes(plank, other);
        int otherVotes = countVotes(other, plank);
        if (votes == otherVotes) {
            return Math.min(plank, other);
        }
        return votes > otherVotes ? plank : other;
    }

    // ---- what would be

    public boolean canLeadTo(int delegate, int plank) throws IndexOutOfBoundsException {
        checkDelegate(delegate);
        checkPlank(plank);
        return isWilling(delegate, plank) && hasPlaceFor(delegate, plank);
    }

    public int wouldStepTo(int delegate) throws IndexOutOfBoundsException {
        checkDelegate(delegate);
        return stepFrom(delegate, planks[delegate], middleOfAll(planks));
    }

    public boolean isStill() {
        copyPlanksToLater();
        return goRound(laterPlanks) == 0;
    }

    public int plankIn(int delegate, int rounds)
            throws IndexOutOfBoundsException, IllegalArgumentException {
        checkDelegate(delegate);
        checkRounds(rounds);
        copyPlanksToLater();
        goRounds(laterPlanks, rounds);
        return laterPlanks[delegate];
    }

    public int compromiseIn(int rounds) throws IllegalArgumentException, IllegalStateException {
        checkRounds(rounds);
        checkSomeoneThere();
        copyPlanksToLater();
        goRounds(laterPlanks, rounds);
        return middleOfAll(laterPlanks);
    }

    public int roundsUntilTreaty() {
        copyPlanksToLater();
        for (int round = 0; round <= FARTHEST_ROUND; round++) {
            if (agreesAt(laterPlanks)) {
                return round;
            }
            goRound(laterPlanks);
        }
        return -1;
    }

    public int roundsUntilStill() {
        copyPlanksToLater();
        for (int round = 0; round <= FARTHEST_ROUND; round++) {
            if (goRound(laterPlanks) == 0) {
                return round;
            }
        }
        return -1;
    }

    public int bestStand(int delegate) throws IndexOutOfBoundsException {
        checkDelegate(delegate);
        gatherOthers(delegate);
        int best = 0;
        int least = discontent(delegate, row.middleWith(0));
        for (int plank = 1; plank < PLANKS; plank++) {
            int found = discontent(delegate, row.middleWith(plank));
            if (found < least) {
                least = found;
                best = plank;
            }
        }
        return best;
    }

    public double meanPlank() {
        if (count == 0) {
            return 0.0;
        }
        int sum = 0;
        for (int i = 0; i < count; i++) {
            sum += planks[i];
        }
        return (double) sum / (double) count;
    }

    public long digest() {
        long d = DIGEST_START;
        d = fold(d, delegates());
        d = fold(d, rounds());
        d = fold(d, strength());
        d = fold(d, spread());
        d = fold(d, isTreaty() ? 1 : 0);
        d = fold(d, isStill() ? 1 : 0);
        if (count > 0) {
            d = fold(d, compromise());
            d = fold(d, decisiveOne());
            d = fold(d, bestPlank());
        }
        d = fold(d, allDiscontent());
        d = fold(d, roundsUntilStill());
        for (int i = 0; i < count; i++) {
            d = foldDelegate(d, i);
        }
        return d;
    }

    private long foldDelegate(long before, int delegate) {
        long d = before;
        d = fold(d, villageOf(delegate));
        d = fold(d, wishOf(delegate));
        d = fold(d, reachOf(delegate));
        d = fold(d, paceOf(delegate));
        d = fold(d, plankOf(delegate));
        d = fold(d, wouldStepTo(delegate));
        d = fold(d, bestStand(delegate));
        d = fold(d, discontentOf(delegate));
        return d;
    }

    private static long fold(long d, int x) {
        return d * DIGEST_FACTOR + x;
    }

    // ---- what calls refuse

    private void checkDelegate(int delegate) {
        if (delegate < 0 || delegate >= count) {
            throw new IndexOutOfBoundsException("there is no such delegate");
        }
    }

    private static void checkVillage(int village) {
        if (village < 0 || village >= VILLAGES) {
            throw new IndexOutOfBoundsException("the village is not 0 to 4");
        }
    }

    private static void checkPlank(int plank) {
        if (plank < 0 || plank >= PLANKS) {
            throw new IndexOutOfBoundsException("the plank is not 0 to 40");
        }
    }

    private static void checkTwoPlanks(int plank, int other) {
        checkPlank(plank);
        checkPlank(other);
        if (plank == other) {
            throw new IllegalArgumentException("both planks are the same");
        }
    }

    private static void checkReachAndPace(int reach, int pace) {
        if (reach < 0 || reach > MOST_REACH) {
            throw new IllegalArgumentException("the reach is not 0 to 20");
        }
        if (pace < 1 || pace > MOST_PACE) {
            throw new IllegalArgumentException("the pace is not 1 to 5");
        }
    }

    private static void checkRounds(int rounds) {
        if (rounds < 1 || rounds > MOST_ROUNDS) {
            throw new IllegalArgumentException("the rounds are not 1 to 50");
        }
    }

    private void checkSomeoneThere() {
        if (count == 0) {
            throw new IllegalStateException("there are no delegates");
        }
    }

    // ---- one delegate

    private boolean isWilling(int delegate, int plank) {
        return discontent(delegate, plank) <= reaches[delegate];
    }

    private int discontent(int delegate, int plank) {
        return Math.abs(plank - wishes[delegate]);
    }

    // Who stands on a full plank already needs no more room there.
    private boolean hasPlaceFor(int delegate, int plank) {
        return planks[delegate] == plank || hasRoom(planks, plank);
    }

    private int stepFrom(int delegate, int from, int middle) {
        int goal = nearestWillingPlank(delegate, middle);
        return cutTo(goal, from - paces[delegate], from + paces[delegate]);
    }

    // No cut at the bridge's ends is needed: the goal lies between the wish and the compromise.
    private int nearestWillingPlank(int delegate, int middle) {
        int wish = wishes[delegate];
        return cutTo(middle, wish - reaches[delegate], wish + reaches[delegate]);
    }

    private static int cutTo(int number, int least, int most) {
        return Math.max(least, Math.min(number, most));
    }

    private void closeGap(int[] numbers, int gap) {
        for (int i = gap; i < count - 1; i++) {
            numbers[i] = numbers[i + 1];
        }
    }

    // ---- all delegates, on the planks of now or of later

    private boolean hasRoom(int[] where, int plank) {
        return crowdOn(where, plank) < plankStrength;
    }

    private int crowdOn(int[] where, int plank) {
        int crowd = 0;
        for (int i = 0; i < count; i++) {
            if (where[i] == plank) {
                crowd++;
            }
        }
        return crowd;
    }

    private int distanceOfEnds(int[] where) {
        int lowest = PLANKS - 1;
        int highest = 0;
        for (int i = 0; i < count; i++) {
            lowest = Math.min(lowest, where[i]);
            highest = Math.max(highest, where[i]);
        }
        // Without delegates the ends are crossed, and the distance is none.
        return Math.max(0, highest - lowest);
    }

    private boolean agreesAt(int[] where) {
        return hasTwoVillages() && distanceOfEnds(where) <= TREATY_SPREAD;
    }

    private boolean hasTwoVillages() {
        for (int i = 1; i < count; i++) {
            if (villages[i] != villages[i - 1]) {
                return true;
            }
        }
        return false;
    }

    private int discontentOfAll(int plank) {
        int sum = 0;
        for (int i = 0; i < count; i++) {
            sum += discontent(i, plank);
        }
        return sum;
    }

    private int countVotes(int plank, int against) {
        int votes = 0;
        for (int i = 0; i < count; i++) {
            if (discontent(i, plank) < discontent(i, against)) {
                votes++;
            }
        }
        return votes;
    }

    // ---- medians

    private int middleOfAll(int[] where) {
        row.empty();
        for (int i = 0; i < count; i++) {
            row.put(where[i]);
        }
        return row.middle();
    }

    private void gatherVillage(int village) {
        row.empty();
        for (int i = 0; i < count; i++) {
            if (villages[i] == village) {
                row.put(planks[i]);
            }
        }
    }

    private void gatherOthers(int delegate) {
        row.empty();
        for (int i = 0; i < count; i++) {
            if (i != delegate) {
                row.put(planks[i]);
            }
        }
    }

    // ---- rounds

    private void copyPlanksToLater() {
        for (int i = 0; i < count; i++) {
            laterPlanks[i] = planks[i];
        }
    }

    private int goRounds(int[] where, int rounds) {
        int moves = 0;
        for (int round = 0; round < rounds; round++) {
            moves += goRound(where);
        }
        return moves;
    }

    private int goRound(int[] where) {
        // Looked at once: the steps of this round do not change it.
        int middle = middleOfAll(where);
        int moves = 0;
        for (int i = 0; i < count; i++) {
            int plank = stepFrom(i, where[i], middle);
            if (plank != where[i] && hasRoom(where, plank)) {
                where[i] = plank;
                moves++;
            }
        }
        return moves;
    }

    /** Planks, put in a row as they come, so that a median needs no sorting of its own. */
    private static final class PlankRow {
        private final int[] sorted = new int[MOST_DELEGATES];
        private int length = 0;

        void empty() {
            length = 0;
        }

        boolean isBare() {
            return length == 0;
        }

        void put(int plank) {
            if (length >= MOST_DELEGATES) {
                return;
            }
            int place = length;
            while (place > 0 && sorted[place - 1] > plank) {
                sorted[place] = sorted[place - 1];
                place--;
            }
            sorted[place] = plank;
            length++;
        }

        // A row without planks has no median: no answer is made with its 0.
        int middle() {
            return length == 0 ? 0 : sorted[(length - 1) / 2];
        }

        // One more can't bring the median past its neighbours in the middle: it is cut to them.
        int middleWith(int plank) {
            int place = length / 2;
            int least = place > 0 ? sorted[place - 1] : 0;
            int most = place < length ? sorted[place] : PLANKS - 1;
            return cutTo(plank, least, most);
        }
    }
}

import java.util.ArrayList;
import java.util.List;

/**
 * The document once more, as slowly and as near to its words as can be: every delegate is an
 * object, every median a sorted list, every step is looked for plank by plank.
 */
final class Model {
    static final class Delegate {
        int village;
        int wish;
        int reach;
        int pace;
        int plank;

        boolean willing(int p) {
            return away(p) <= reach;
        }

        int away(int p) {
            return p > wish ? p - wish : wish - p;
        }

        Delegate copy() {
            Delegate d = new Delegate();
            d.village = village;
            d.wish = wish;
            d.reach = reach;
            d.pace = pace;
            d.plank = plank;
            return d;
        }

        int stepTowards(int compromise) {
            int goal = -1;
            for (int p = 0; p <= 40; p++) {
                if (willing(p) && (goal < 0
                        || Math.abs(p - compromise) < Math.abs(goal - compromise))) {
                    goal = p;
                }
            }
            int at = plank;
            for (int i = 0; i < pace && at != goal; i++) {
                at += at < goal ? 1 : -1;
            }
            return at;
        }
    }

    private List<Delegate> all = new ArrayList<>();
    private int rounds = 0;
    private int strength = 12;

    private Model copy() {
        Model m = new Model();
        for (Delegate d : all) {
            m.all.add(d.copy());
        }
        m.rounds = rounds;
        m.strength = strength;
        return m;
    }

    private Delegate at(int delegate) {
        index(delegate >= 0 && delegate < all.size());
        return all.get(delegate);
    }

    private static void index(boolean fine) {
        if (!fine) {
            throw new IndexOutOfBoundsException();
        }
    }

    private static void argument(boolean fine) {
        if (!fine) {
            throw new IllegalArgumentException();
        }
    }

    private static void state(boolean fine) {
        if (!fine) {
            throw new IllegalStateException();
        }
    }

    private static void plank(int p) {
        index(p >= 0 && p <= 40);
    }

    private static int median(List<Integer> planks) {
        List<Integer> row = new ArrayList<>(planks);
        row.sort(null);
        return row.get((row.size() - 1) / 2);
    }

    private List<Integer> planks() {
        List<Integer> planks = new ArrayList<>();
        for (Delegate d : all) {
            planks.add(d.plank);
        }
        return planks;
    }

    int send(int village, int wish, int reach, int pace) {
        index(village >= 0 && village <= 4);
        plank(wish);
        argument(reach >= 0 && reach <= 20 && pace >= 1 && pace <= 5);
        state(all.size() < 12 && standingOn(wish) < strength);
        Delegate d = new Delegate();
        d.village = village;
        d.wish = wish;
        d.reach = reach;
        d.pace = pace;
        d.plank = wish;
        all.add(d);
        return all.size() - 1;
    }

    int recall(int delegate) {
        int before = at(delegate).plank;
        all.remove(delegate);
        return before;
    }

    int persuade(int delegate, int wish) {
        int before = at(delegate).wish;
        plank(wish);
        at(delegate).wish = wish;
        return before;
    }

    int lead(int delegate, int plank) {
        state(canLeadTo(delegate, plank));
        int before = at(delegate).plank;
        at(delegate).plank = plank;
        return before;
    }

    int setStrength(int given) {
        argument(given >= 1 && given <= 12);
        int before = strength;
        strength = given;
        return before;
    }

    int passRounds(int given) {
        argument(given >= 1 && given <= 50);
        int moves = 0;
        for (int i = 0; i < given; i++) {
            moves += round();
        }
        return moves;
    }

    private int round() {
        rounds++;
        if (all.isEmpty()) {
            return 0;
        }
        int compromise = compromise();
        int moves = 0;
        for (Delegate d : all) {
            int to = d.stepTowards(compromise);
            if (to != d.plank && standingOn(to) < strength) {
                d.plank = to;
                moves++;
            }
        }
        return moves;
    }

    int delegates() {
        return all.size();
    }

    int rounds() {
        return rounds;
    }

    int strength() {
        return strength;
    }

    int villageOf(int delegate) {
        return at(delegate).village;
    }

    int wishOf(int delegate) {
        return at(delegate).wish;
    }

    int reachOf(int delegate) {
        return at(delegate).reach;
    }

    int paceOf(int delegate) {
        return at(delegate).pace;
    }

    int plankOf(int delegate) {
        return at(delegate).plank;
    }

    int standingOn(int plank) {
        plank(plank);
        int standing = 0;
        for (Delegate d : all) {
            standing += d.plank == plank ? 1 : 0;
        }
        return standing;
    }

    int spread() {
        int most = 0;
        for (Delegate a : all) {
            for (Delegate b : all) {
                most = Math.max(most, a.plank - b.plank);
            }
        }
        return most;
    }

    boolean isTreaty() {
        boolean two = false;
        for (Delegate a : all) {
            for (Delegate b : all) {
                two |= a.village != b.village;
            }
        }
        return two && spread() <= 2;
    }

    int compromise() {
        state(!all.isEmpty());
        return median(planks());
    }

    int compromiseOf(int village) {
        index(village >= 0 && village <= 4);
        List<Integer> its = new ArrayList<>();
        for (Delegate d : all) {
            if (d.village == village) {
                its.add(d.plank);
            }
        }
        state(!its.isEmpty());
        return median(its);
    }

    int compromiseWithout(int delegate) {
        at(delegate);
        List<Integer> others = planks();
        others.remove(delegate);
        state(!others.isEmpty());
        return median(others);
    }

    int decisiveOne() {
        return planks().indexOf(compromise());
    }

    int discontentOf(int delegate) {
        Delegate d = at(delegate);
        return d.away(compromise());
    }

    private int discontentWith(int plank) {
        int sum = 0;
        for (Delegate d : all) {
            sum += d.away(plank);
        }
        return sum;
    }

    int allDiscontent() {
        return all.isEmpty() ? 0 : discontentWith(compromise());
    }

    int bestPlank() {
        state(!all.isEmpty());
        int best = 40;
        for (int p = 40; p >= 0; p--) {
            best = discontentWith(p) <= discontentWith(best) ? p : best;
        }
        return best;
    }

    int votesFor(int plank, int against) {
        plank(plank);
        plank(against);
        argument(plank != against);
        int votes = 0;
        for (Delegate d : all) {
            votes += d.away(plank) < d.away(against) ? 1 : 0;
        }
        return votes;
    }

    int winnerOf(int plank, int other) {
        int more = votesFor(plank, other) - votesFor(other, plank);
        return more > 0 ? plank : more < 0 ? other : plank < other ? plank : other;
    }

    boolean canLeadTo(int delegate, int plank) {
        Delegate d = at(delegate);
        plank(plank);
        return d.willing(plank) && (d.plank == plank || standingOn(plank) < strength);
    }

    int wouldStepTo(int delegate) {
        return at(delegate).stepTowards(compromise());
    }

    boolean isStill() {
        return copy().round() == 0;
    }

    int plankIn(int delegate, int given) {
        at(delegate);
        Model m = copy();
        m.passRounds(given);
        return m.plankOf(delegate);
    }

    int compromiseIn(int given) {
        Model m = copy();
        m.passRounds(given);
        return m.compromise();
    }

    int roundsUntilTreaty() {
        Model m = copy();
        int gone = 0;
        while (gone <= 100 && !m.isTreaty()) {
            m.round();
            gone++;
        }
        return gone <= 100 ? gone : -1;
    }

    int roundsUntilStill() {
        Model m = copy();
        int gone = 0;
        while (gone <= 100 && !m.isStill()) {
            m.round();
            gone++;
        }
        return gone <= 100 ? gone : -1;
    }

    int bestStand(int delegate) {
        at(delegate);
        int best = 40;
        for (int p = 40; p >= 0; p--) {
            best = discontentFrom(delegate, p) <= discontentFrom(delegate, best) ? p : best;
        }
        return best;
    }

    private int discontentFrom(int delegate, int plank) {
        Model m = copy();
        m.at(delegate).plank = plank;
        return m.discontentOf(delegate);
    }

    double meanPlank() {
        double sum = 0;
        for (Delegate d : all) {
            sum += d.plank;
        }
        return all.isEmpty() ? 0 : sum / all.size();
    }

    long digest() {
        List<Integer> numbers = new ArrayList<>(List.of(delegates(), rounds(), strength(),
            spread(), isTreaty() ? 1 : 0, isStill() ? 1 : 0));
        if (!all.isEmpty()) {
            numbers.addAll(List.of(compromise(), decisiveOne(), bestPlank()));
        }
        numbers.addAll(List.of(allDiscontent(), roundsUntilStill()));
        for (int i = 0; i < all.size(); i++) {
            numbers.addAll(List.of(villageOf(i), wishOf(i), reachOf(i), paceOf(i), plankOf(i),
                wouldStepTo(i), bestStand(i), discontentOf(i)));
        }
        long d = 1933;
        for (int x : numbers) {
            d = d * 31 + x;
        }
        return d;
    }
}

import java.lang.reflect.Field;

/**
 * The bound of 100 rounds in the promises 33 and 34. No bridge that calls can make is known to go
 * on for so long (see NOTES.md), so a delegate is put beyond the last plank here, by hand.
 */
public final class HundredRoundsEdgesTest extends Edges {
    public static void main(String[] args) {
        new HundredRoundsEdgesTest().ask();
    }

    @Override
    void askAll() {
        treatyAtMostBehind100();
        stillAtMostBehind100();
        digestWithoutStillness();
    }

    /** One who wishes for the plank 0, and is as many rounds away from it. */
    private static RopeChoices homeIn(int rounds) {
        RopeChoices x = new RopeChoices();
        x.send(1, 0, 0, 1);
        putOn(x, 0, rounds);
        return x;
    }

    /** One who stays on the plank 0, and one who is two planks from it behind as many rounds. */
    private static RopeChoices treatyIn(int rounds) {
        RopeChoices x = new RopeChoices();
        x.send(0, 0, 0, 1);
        x.send(1, 0, 0, 1);
        putOn(x, 1, rounds + 2);
        return x;
    }

    private static void putOn(RopeChoices x, int delegate, int plank) {
        try {
            Field planks = RopeChoices.class.getDeclaredField("planks");
            planks.setAccessible(true);
            ((int[]) planks.get(x))[delegate] = plank;
        } catch (ReflectiveOperationException e) {
            throw new AssertionError("the planks are held in another way now", e);
        }
    }

    private void treatyAtMostBehind100() {
        for (int rounds = 0; rounds <= 100; rounds++) {
            RopeChoices x = treatyIn(rounds);
            dueUnchanged("33 at most 100", rounds, x, x::roundsUntilTreaty);
        }
        for (int rounds : new int[] {101, 102, 150, 1000}) {
            RopeChoices x = treatyIn(rounds);
            dueUnchanged("33 not by then: behind " + rounds, -1, x, x::roundsUntilTreaty);
        }
        RopeChoices x = treatyIn(101);
        x.passRounds(1);
        dueUnchanged("33 100, when one of 101 went by", 100, x, x::roundsUntilTreaty);
    }

    private void stillAtMostBehind100() {
        for (int rounds = 0; rounds <= 100; rounds++) {
            RopeChoices x = homeIn(rounds);
            dueUnchanged("34 at most 100", rounds, x, x::roundsUntilStill);
        }
        for (int rounds : new int[] {101, 102, 150, 1000}) {
            RopeChoices x = homeIn(rounds);
            dueUnchanged("34 not by then: behind " + rounds, -1, x, x::roundsUntilStill);
        }
        RopeChoices x = homeIn(101);
        x.passRounds(1);
        dueUnchanged("34 100, when one of 101 went by", 100, x, x::roundsUntilStill);
    }

    private void digestWithoutStillness() {
        int[] numbers = {2, 0, 12, 101, 0, 0, 0, 0, 0, 0, -1,
            0, 0, 0, 1, 0, 0, 0, 0,
            1, 0, 0, 1, 101, 100, 0, 0};
        long d = 1933;
        for (int number : numbers) {
            d = d * 31 + number;
        }
        long due = d;
        RopeChoices x = treatyIn(99);
        dueUnchanged("37 a -1 is one of the numbers, too", due, x, x::digest);
    }
}

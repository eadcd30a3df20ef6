import java.math.BigInteger;

/** The boundary cases of the promises 28 to 37: what would be. */
public final class WhatWouldBeEdgesTest extends Edges {
    public static void main(String[] args) {
        new WhatWouldBeEdgesTest().ask();
    }

    @Override
    void askAll() {
        canLeadToRefused();
        canLeadToAsFarAsWilling();
        canLeadToNeedsRoomOnAnotherPlank();
        wouldStepToRefused();
        wouldStepToEndsAtTheGoal();
        wouldStepToWhetherThereIsRoomOrNot();
        isStillWithoutAnybodyToGo();
        isStillWithoutRoom();
        plankInRefused();
        plankInOneToFiftyRounds();
        compromiseInRefused();
        compromiseInOneToFiftyRounds();
        treatyNow();
        treatyForTheFirstTime();
        treatyLate();
        treatyNever();
        stillNow();
        stillForTheFirstTime();
        bestStandRefused();
        bestStandIsTheSmallestNumber();
        bestStandOnAnyPlank();
        meanPlankFromNoneToTwelve();
        digestWithoutDelegates();
        digestCountsOneOrNone();
        digestWrapsAround();
    }

    // ---- canLeadTo

    private void canLeadToRefused() {
        dueNoSuchDelegate("28 canLeadTo", (x, delegate) -> x.canLeadTo(delegate, 12));
        dueNoSuchDelegate("28 canLeadTo no plank", (x, delegate) -> x.canLeadTo(delegate, 41));
        RopeChoices x = Bridges.of(3, 37, 12);
        dueNoSuchPlank("28 canLeadTo, the first one", x, plank -> x.canLeadTo(0, plank));
        dueNoSuchPlank("28 canLeadTo, the last one", x, plank -> x.canLeadTo(2, plank));
        dueUnchanged("28 to the first plank", true, x, () -> x.canLeadTo(0, 0));
        dueUnchanged("28 to the last plank", true, x, () -> x.canLeadTo(1, 40));
    }

    private void canLeadToAsFarAsWilling() {
        for (int reach = 0; reach <= 20; reach++) {
            RopeChoices x = new RopeChoices();
            x.send(0, 20, reach, 1);
            for (int plank = 0; plank <= 40; plank++) {
                int p = plank;
                due("28 to " + p + " with the reach " + reach, Math.abs(p - 20) <= reach,
                    () -> x.canLeadTo(0, p));
            }
        }
        RopeChoices x = new RopeChoices();
        x.send(0, 20, 0, 1);
        x.persuade(0, 21);
        dueUnchanged("28 not willing where this one stands", false, x, () -> x.canLeadTo(0, 20));
        dueUnchanged("28 willing on the wished one", true, x, () -> x.canLeadTo(0, 21));
    }

    private void canLeadToNeedsRoomOnAnotherPlank() {
        RopeChoices x = Bridges.of(10, 20, 20);
        x.setStrength(3);
        dueUnchanged("28 room for one more", true, x, () -> x.canLeadTo(0, 20));
        x.setStrength(2);
        dueUnchanged("28 no room", false, x, () -> x.canLeadTo(0, 20));
        dueUnchanged("28 where this one stands, no room", true, x, () -> x.canLeadTo(1, 20));
        x.setStrength(1);
        dueUnchanged("28 more than it bears", false, x, () -> x.canLeadTo(0, 20));
        dueUnchanged("28 where this one stands, too many", true, x, () -> x.canLeadTo(2, 20));
        dueUnchanged("28 who wishes for a plank takes no room", true, x,
            () -> x.canLeadTo(1, 21));
        x.persuade(0, 20);
        dueUnchanged("28 to the wished one, no room", false, x, () -> x.canLeadTo(0, 20));
    }

    // ---- wouldStepTo

    private void wouldStepToRefused() {
        dueNoSuchDelegate("29 wouldStepTo", RopeChoices::wouldStepTo);
    }

    private void wouldStepToEndsAtTheGoal() {
        for (int pace = 1; pace <= 5; pace++) {
            for (int distance = 0; distance <= 6; distance++) {
                dueSteps(pace, distance);
            }
        }
        RopeChoices ends = Bridges.of(0, 0, 5);
        due("29 to the first plank", 0, () -> ends.wouldStepTo(2));
        RopeChoices others = Bridges.of(40, 40, 35);
        due("29 to the last plank", 40, () -> others.wouldStepTo(2));
    }

    private void dueSteps(int pace, int distance) {
        int step = Math.min(pace, distance);
        String text = ", pace " + pace + ", distance " + distance;
        dueStep("29 down to the compromise" + text, 20 + distance - step,
            walker(20, 20 + distance, 20, pace));
        dueStep("29 up to the compromise" + text, 20 - distance + step,
            walker(20, 20 - distance, 20, pace));
        dueStep("29 up as far as willing" + text, 20 + step, walker(40, 20, distance, pace));
        dueStep("29 down as far as willing" + text, 20 - step, walker(0, 20, distance, pace));
        dueStep("29 back up towards the wish" + text, 20 + step,
            unwilling(20 + distance + 3, pace));
        dueStep("29 back down towards the wish" + text, 20 - step,
            unwilling(20 - distance - 3, pace));
    }

    private void dueStep(String what, int due, RopeChoices x) {
        dueUnchanged(what, due, x, () -> x.wouldStepTo(0));
    }

    /** One on the wished plank, and two who stand on the compromise. */
    private static RopeChoices walker(int compromise, int wish, int reach, int pace) {
        return Bridges.ofRows(12, new int[][] {
            {2, wish, reach, pace, wish},
            {0, compromise, 0, 1, compromise},
            {1, compromise, 0, 1, compromise},
        });
    }

    /** One with a reach of 3, who stands on plank 20, which is the compromise. */
    private static RopeChoices unwilling(int wish, int pace) {
        return Bridges.ofRows(12, new int[] {0, 20, 3, pace, wish});
    }

    private void wouldStepToWhetherThereIsRoomOrNot() {
        RopeChoices x = Bridges.of(20, 24);
        dueUnchanged("29 room", 20, x, () -> x.wouldStepTo(1));
        x.setStrength(1);
        dueUnchanged("29 no room", 20, x, () -> x.wouldStepTo(1));
        dueUnchanged("29 this one stands there", 20, x, () -> x.wouldStepTo(0));
        due("29 and stays in the round", 0, () -> x.passRounds(1));
    }

    // ---- isStill

    private void isStillWithoutAnybodyToGo() {
        RopeChoices x = new RopeChoices();
        dueUnchanged("30 without delegates", true, x, x::isStill);
        x.send(0, 20, 0, 1);
        dueUnchanged("30 one", true, x, x::isStill);
        x.persuade(0, 21);
        dueUnchanged("30 one, who wishes for the plank beside", false, x, x::isStill);
        x.passRounds(1);
        dueUnchanged("30 one, who went there", true, x, x::isStill);
        x.send(1, 22, 0, 1);
        dueUnchanged("30 two, who are not willing", true, x, x::isStill);
        x.send(2, 20, 0, 1);
        x.send(2, 20, 1, 1);
        dueUnchanged("30 two stand on the compromise, to which one is not willing", true, x,
            x::isStill);
        x.send(2, 19, 1, 1);
        dueUnchanged("30 only the last one would go", false, x, x::isStill);
        RopeChoices first = Bridges.of(21, 20, 20);
        dueUnchanged("30 only the first one would go", false, first, first::isStill);
        RopeChoices twelve = Bridges.of(7, 7, 7, 7, 7, 7, 7, 7, 7, 7, 7, 7);
        dueUnchanged("30 twelve together", true, twelve, twelve::isStill);
        RopeChoices apart = Bridges.full();
        dueUnchanged("30 twelve apart", false, apart, apart::isStill);
    }

    private void isStillWithoutRoom() {
        RopeChoices x = Bridges.of(20, 21);
        dueUnchanged("30 room", false, x, x::isStill);
        x.setStrength(2);
        dueUnchanged("30 room for one more", false, x, x::isStill);
        x.setStrength(1);
        dueUnchanged("30 no room", true, x, x::isStill);
        RopeChoices late = Bridges.ofRows(1, new int[][] {
            {0, 20, 20, 1, 20},
            {1, 21, 0, 1, 22},
            {2, 19, 0, 1, 19},
        });
        dueUnchanged("30 one of them has room", false, late, late::isStill);
    }

    // ---- rounds to come

    /** A bridge on which somebody goes for 91 rounds. */
    private static RopeChoices longWay() {
        return Bridges.ofRows(2, new int[][] {
            {0, 40, 0, 2, 0},
            {1, 38, 3, 1, 12},
            {2, 1, 4, 1, 22},
            {3, 1, 19, 2, 38},
            {4, 2, 4, 3, 29},
            {0, 38, 0, 1, 0},
            {1, 8, 0, 3, 0},
            {2, 5, 2, 5, 0},
            {3, 1, 0, 1, 40},
            {4, 10, 18, 5, 1},
            {0, 5, 0, 3, 0},
            {1, 2, 14, 4, 3},
        });
    }

    private void plankInRefused() {
        dueNoSuchDelegate("31 plankIn", (x, delegate) -> x.plankIn(delegate, 1));
        dueNoSuchDelegate("31 plankIn, before no rounds", (x, delegate) -> x.plankIn(delegate, 0));
        dueNoSuchDelegate("31 plankIn, before too many", (x, delegate) -> x.plankIn(delegate, 51));
        RopeChoices x = Bridges.of(3, 30, 12);
        dueBadRounds("31 plankIn, the first one", x, rounds -> x.plankIn(0, rounds));
        dueBadRounds("31 plankIn, the last one", x, rounds -> x.plankIn(2, rounds));
    }

    private void plankInOneToFiftyRounds() {
        for (int rounds = 1; rounds <= 50; rounds++) {
            RopeChoices later = longWay();
            later.passRounds(rounds);
            int r = rounds;
            for (int i = 0; i < 12; i++) {
                RopeChoices x = longWay();
                int delegate = i;
                dueUnchanged("31 as if " + rounds + " rounds went by", later.plankOf(i), x,
                    () -> x.plankIn(delegate, r));
            }
        }
        RopeChoices slow = Bridges.ofRows(12, new int[][] {{0, 40, 0, 1, 0}, {1, 0, 0, 1, 0}});
        dueUnchanged("31 behind one round", 39, slow, () -> slow.plankIn(0, 1));
        dueUnchanged("31 behind 39 rounds", 1, slow, () -> slow.plankIn(0, 39));
        dueUnchanged("31 behind 40 rounds", 0, slow, () -> slow.plankIn(0, 40));
        dueUnchanged("31 behind 50 rounds", 0, slow, () -> slow.plankIn(0, 50));
        RopeChoices x = longWay();
        dueUnchanged("31 behind 49 rounds of the long way", 2, x, () -> x.plankIn(8, 49));
        dueUnchanged("31 behind 50 rounds of the long way", 3, x, () -> x.plankIn(8, 50));
    }

    private void compromiseInRefused() {
        RopeChoices none = new RopeChoices();
        dueUnchanged("32 there are no delegates", STATE, none, () -> none.compromiseIn(1));
        dueUnchanged("32 nor behind fifty", STATE, none, () -> none.compromiseIn(50));
        dueBadRounds("32 compromiseIn, before no delegates", none, none::compromiseIn);
        RopeChoices x = Bridges.of(3, 30, 12);
        dueBadRounds("32 compromiseIn", x, x::compromiseIn);
        RopeChoices one = Bridges.of(7);
        dueUnchanged("32 there is one", 7, one, () -> one.compromiseIn(1));
        one.recall(0);
        dueUnchanged("32 there is none any more", STATE, one, () -> one.compromiseIn(1));
    }

    private void compromiseInOneToFiftyRounds() {
        for (int rounds = 1; rounds <= 50; rounds++) {
            RopeChoices x = longWay();
            RopeChoices later = longWay();
            later.passRounds(rounds);
            int r = rounds;
            dueUnchanged("32 as if " + rounds + " rounds went by", later.compromise(), x,
                () -> x.compromiseIn(r));
        }
        RopeChoices alone = Bridges.ofRows(12, new int[] {0, 40, 0, 1, 0});
        dueUnchanged("32 behind one round", 39, alone, () -> alone.compromiseIn(1));
        dueUnchanged("32 behind 39 rounds", 1, alone, () -> alone.compromiseIn(39));
        dueUnchanged("32 behind 50 rounds", 0, alone, () -> alone.compromiseIn(50));
        RopeChoices x = longWay();
        x.passRounds(3);
        dueUnchanged("32 behind 49 rounds of the long way", 4, x, () -> x.compromiseIn(49));
        dueUnchanged("32 behind 50 rounds of the long way", 3, x, () -> x.compromiseIn(50));
    }

    // ---- roundsUntilTreaty

    private void treatyNow() {
        RopeChoices x = Bridges.of(20, 22);
        dueUnchanged("33 0 if there is one now", 0, x, x::roundsUntilTreaty);
        x.persuade(1, 40);
        x.persuade(0, 0);
        dueUnchanged("33 also if it ends in the next round", 0, x, x::roundsUntilTreaty);
        RopeChoices one = Bridges.of(20, 23);
        dueUnchanged("33 behind one round", 1, one, one::roundsUntilTreaty);
        one.passRounds(1);
        dueUnchanged("33 now", 0, one, one::roundsUntilTreaty);
    }

    private void treatyForTheFirstTime() {
        RopeChoices pass = Bridges.ofRows(12, new int[][] {
            {0, 10, 0, 1, 30},
            {1, 30, 0, 1, 10},
        });
        dueUnchanged("33 when they meet", 9, pass, pass::roundsUntilTreaty);
        pass.passRounds(8);
        dueUnchanged("33 one round before", 1, pass, pass::roundsUntilTreaty);
        pass.passRounds(1);
        dueUnchanged("33 they are two planks from each other", 0, pass, pass::roundsUntilTreaty);
        pass.passRounds(2);
        dueUnchanged("33 and once more", 0, pass, pass::roundsUntilTreaty);
        pass.passRounds(1);
        dueUnchanged("33 never again", -1, pass, pass::roundsUntilTreaty);
        RopeChoices slow = Bridges.ofRows(12, new int[][] {{0, 0, 0, 1, 40}, {1, 40, 0, 1, 40}});
        dueUnchanged("33 behind 38 rounds", 38, slow, slow::roundsUntilTreaty);
        RopeChoices fast = Bridges.ofRows(12, new int[][] {{0, 0, 0, 5, 40}, {1, 40, 0, 1, 40}});
        dueUnchanged("33 behind eight rounds", 8, fast, fast::roundsUntilTreaty);
    }

    /** A long file of delegates who all go from the last planks to the first ones. */
    private static RopeChoices longFile() {
        return Bridges.ofRows(3, new int[][] {
            {0, 40, 7, 1, 1},
            {1, 40, 4, 1, 0},
            {2, 40, 4, 1, 0},
            {3, 40, 0, 1, 0},
            {4, 40, 1, 1, 0},
            {0, 40, 1, 1, 0},
            {1, 40, 0, 1, 0},
            {2, 39, 0, 1, 0},
            {3, 22, 3, 5, 5},
        });
    }

    private void treatyLate() {
        for (int gone = 0; gone <= 48; gone++) {
            RopeChoices x = longFile();
            for (int round = 0; round < gone; round++) {
                x.passRounds(1);
            }
            dueUnchanged("33 behind " + gone + " of 48", 48 - gone, x, x::roundsUntilTreaty);
            due("33 behind " + gone + " of 48", gone == 48, x::isTreaty);
        }
    }

    private void treatyNever() {
        RopeChoices x = new RopeChoices();
        dueUnchanged("33 without delegates", -1, x, x::roundsUntilTreaty);
        x.send(3, 20, 20, 5);
        dueUnchanged("33 of one", -1, x, x::roundsUntilTreaty);
        x.send(3, 21, 20, 5);
        dueUnchanged("33 of one village", -1, x, x::roundsUntilTreaty);
        x.send(4, 25, 2, 5);
        dueUnchanged("33 of two villages", 1, x, x::roundsUntilTreaty);
        x.send(4, 27, 0, 5);
        dueUnchanged("33 one is not willing", -1, x, x::roundsUntilTreaty);
        RopeChoices full = Bridges.of(20, 21, 22, 23);
        full.setStrength(1);
        dueUnchanged("33 there is no room for it", -1, full, full::roundsUntilTreaty);
    }

    // ---- roundsUntilStill

    private void stillNow() {
        RopeChoices x = new RopeChoices();
        dueUnchanged("34 without delegates", 0, x, x::roundsUntilStill);
        x.send(0, 20, 20, 5);
        dueUnchanged("34 one", 0, x, x::roundsUntilStill);
        x.send(1, 21, 20, 5);
        dueUnchanged("34 behind one round", 1, x, x::roundsUntilStill);
        x.setStrength(1);
        dueUnchanged("34 no room", 0, x, x::roundsUntilStill);
        x.setStrength(12);
        x.passRounds(1);
        dueUnchanged("34 now", 0, x, x::roundsUntilStill);
    }

    private void stillForTheFirstTime() {
        for (int pace = 1; pace <= 5; pace++) {
            RopeChoices x = Bridges.ofRows(12, new int[] {0, 0, 0, pace, 40});
            int due = (40 + pace - 1) / pace;
            dueUnchanged("34 from end to end, pace " + pace, due, x, x::roundsUntilStill);
        }
        for (int gone = 0; gone <= 91; gone++) {
            RopeChoices x = longWay();
            for (int round = 0; round < gone; round++) {
                x.passRounds(1);
            }
            dueUnchanged("34 the long way, behind " + gone, 91 - gone, x, x::roundsUntilStill);
            due("34 the long way, behind " + gone, gone == 91, x::isStill);
        }
    }

    // ---- bestStand

    private void bestStandRefused() {
        dueNoSuchDelegate("35 bestStand", RopeChoices::bestStand);
    }

    private void bestStandIsTheSmallestNumber() {
        for (int wish = 0; wish <= 40; wish++) {
            int due = wish;
            RopeChoices alone = Bridges.of(wish);
            dueUnchanged("35 alone", due, alone, () -> alone.bestStand(0));
            RopeChoices three = Bridges.of(20, 10, 30);
            three.persuade(0, wish);
            int cut = wish <= 10 ? 0 : Math.min(wish, 30);
            dueUnchanged("35 of three, who wishes for " + wish, cut, three,
                () -> three.bestStand(0));
            RopeChoices two = Bridges.of(20, 20);
            two.persuade(0, wish);
            dueUnchanged("35 of two, who wishes for " + wish, wish <= 20 ? due : 20, two,
                () -> two.bestStand(0));
        }
        RopeChoices pinned = Bridges.of(40, 7, 7, 40, 0);
        pinned.persuade(0, 7);
        dueUnchanged("35 the others bring it about from anywhere up to it", 0, pinned,
            () -> pinned.bestStand(0));
        RopeChoices same = Bridges.of(20, 9, 9);
        dueUnchanged("35 all planks are as good", 0, same, () -> same.bestStand(0));
        RopeChoices full = Bridges.full();
        dueUnchanged("35 of twelve, the first one", 0, full, () -> full.bestStand(0));
        dueUnchanged("35 of twelve, the last one", 10, full, () -> full.bestStand(11));
    }

    private void bestStandOnAnyPlank() {
        RopeChoices x = Bridges.ofRows(1, new int[][] {
            {0, 5, 0, 1, 40},
            {1, 40, 0, 1, 40},
            {2, 40, 0, 1, 40},
        });
        dueUnchanged("35 all of them bring 40", 0, x, () -> x.bestStand(0));
        x.lead(1, 40);
        x.recall(2);
        dueUnchanged("35 whatever it bears, willing or not", 40, x, () -> x.bestStand(0));
        x.persuade(0, 0);
        dueUnchanged("35 the first plank", 0, x, () -> x.bestStand(0));
        x.persuade(0, 39);
        dueUnchanged("35 not the last plank", 39, x, () -> x.bestStand(0));
    }

    // ---- meanPlank

    private void meanPlankFromNoneToTwelve() {
        RopeChoices x = new RopeChoices();
        dueUnchanged("36 0 without any", 0.0, x, x::meanPlank);
        int sum = 0;
        for (int i = 0; i < 12; i++) {
            int plank = i * i % 41;
            sum += plank;
            x.send(i % 5, plank, 3, 2);
            due("36 of " + (i + 1), (double) sum / (i + 1), x::meanPlank);
        }
        due("36 all on the first plank", 0.0, () -> Bridges.of(0, 0, 0).meanPlank());
        due("36 all on the last plank", 40.0, () -> Bridges.of(40, 40, 40).meanPlank());
        due("36 each delegate counts", 10.0, () -> Bridges.of(0, 12, 12, 12, 14).meanPlank());
        due("36 two thirds", 2.0 / 3.0, () -> Bridges.of(0, 1, 1).meanPlank());
        x.setStrength(1);
        x.persuade(0, 40);
        dueUnchanged("36 where they stand", (double) sum / 12, x, x::meanPlank);
        int others = sum - x.recall(11);
        dueUnchanged("36 without the one who left", (double) others / 11, x, x::meanPlank);
        for (int i = 0; i < 11; i++) {
            x.recall(0);
        }
        dueUnchanged("36 0 without any again", 0.0, x, x::meanPlank);
    }

    // ---- digest

    /** The number d of the document, with whole numbers that do not wrap around. */
    private static BigInteger unwrapped(int... numbers) {
        BigInteger d = BigInteger.valueOf(1933);
        for (int x : numbers) {
            d = d.multiply(BigInteger.valueOf(31)).add(BigInteger.valueOf(x));
        }
        return d;
    }

    private void digestWithoutDelegates() {
        RopeChoices x = new RopeChoices();
        dueUnchanged("37 none", unwrapped(0, 0, 12, 0, 0, 1, 0, 0).longValueExact(), x, x::digest);
        x.setStrength(1);
        x.passRounds(50);
        dueUnchanged("37 none, behind 50 rounds", unwrapped(0, 50, 1, 0, 0, 1, 0, 0)
            .longValueExact(), x, x::digest);
    }

    private void digestCountsOneOrNone() {
        int[] treaty = {2, 0, 12, 1, 1, 0, 9, 0, 9, 1, 1,
            0, 9, 20, 5, 9, 9, 9, 0,
            1, 10, 20, 5, 10, 9, 9, 1};
        RopeChoices x = Bridges.of(9, 10);
        dueUnchanged("37 a treaty, and not still", unwrapped(treaty).longValue(), x, x::digest);
        int[] still = {1, 0, 12, 0, 0, 1, 9, 0, 9, 0, 0,
            0, 9, 20, 5, 9, 9, 9, 0};
        x.recall(1);
        dueUnchanged("37 no treaty, and still", unwrapped(still).longValue(), x, x::digest);
    }

    private void digestWrapsAround() {
        for (int plank = 0; plank <= 40; plank++) {
            int p = plank;
            BigInteger d = unwrapped(1, 0, 12, 0, 0, 1, p, 0, p, 0, 0, 0, p, 20, 5, p, p, p, 0);
            RopeChoices x = Bridges.of(plank);
            dueUnchanged("37 one on plank " + p, d.longValue(), x, x::digest);
            due("37 is more than 64 bits hold", true, () -> d.bitLength() > 64);
        }
        due("37 as it is written, none", 1648638718924226L, () -> new RopeChoices().digest());
        due("37 wraps around to a number above 0", 2923865129611654018L,
            () -> Bridges.of(9).digest());
        due("37 wraps around to a number below 0", -4172476587055931216L,
            () -> Bridges.of(0).digest());
    }
}

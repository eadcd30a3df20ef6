/** The boundary cases of the promises 8 to 18: what there is. */
public final class WhatThereIsEdgesTest extends Edges {
    public static void main(String[] args) {
        new WhatThereIsEdgesTest().ask();
    }

    @Override
    void askAll() {
        delegatesFromNoneToTwelve();
        roundsAreThoseThatWentBy();
        strengthIsTheOneSetLast();
        noSuchDelegate();
        oneDelegateAtTheEnds();
        standingOnIs0To40();
        standingOnFromNoneToTwelve();
        spreadWithFewerThanTwo();
        spreadOfTheFarthest();
        treatyOfTwoVillagesOrMore();
        treatyUpToTwoPlanks();
        questionsChangeNothing();
    }

    private void delegatesFromNoneToTwelve() {
        RopeChoices x = new RopeChoices();
        for (int i = 0; i < 12; i++) {
            int due = i;
            due("8 " + i, due, x::delegates);
            x.send(i % 5, i, 3, 2);
        }
        due("8 twelve", 12, x::delegates);
        for (int i = 11; i >= 0; i--) {
            x.recall(i / 2);
            int due = i;
            due("8 " + i + " again", due, x::delegates);
        }
    }

    private void roundsAreThoseThatWentBy() {
        RopeChoices x = Bridges.of(3, 30, 12);
        due("9 from 0", 0, x::rounds);
        x.passRounds(1);
        due("9 one", 1, x::rounds);
        x.passRounds(50);
        due("9 fifty more", 51, x::rounds);
        x.passRounds(50);
        due("9 also when nobody goes", 101, x::rounds);
        x.recall(2);
        x.recall(1);
        x.recall(0);
        due("9 also when all are gone", 101, x::rounds);
        RopeChoices most = Bridges.of(3);
        for (int i = 0; i < 500; i++) {
            most.passRounds(50);
        }
        due("9 of 500 calls", 25000, most::rounds);
    }

    private void strengthIsTheOneSetLast() {
        RopeChoices x = new RopeChoices();
        due("10 at first", 12, x::strength);
        for (int strength = 1; strength <= 12; strength++) {
            x.setStrength(strength);
            int due = strength;
            due("10 " + strength, due, x::strength);
        }
    }

    private void noSuchDelegate() {
        dueNoSuchDelegate("11 villageOf", RopeChoices::villageOf);
        dueNoSuchDelegate("12 wishOf", RopeChoices::wishOf);
        dueNoSuchDelegate("13 reachOf", RopeChoices::reachOf);
        dueNoSuchDelegate("14 paceOf", RopeChoices::paceOf);
        dueNoSuchDelegate("15 plankOf", RopeChoices::plankOf);
    }

    private void oneDelegateAtTheEnds() {
        RopeChoices x = new RopeChoices();
        x.send(0, 0, 0, 1);
        for (int i = 1; i < 11; i++) {
            x.send(2, 20, 10, 3);
        }
        x.send(4, 40, 20, 5);
        x.lead(11, 39);
        due("11 the first one's", 0, () -> x.villageOf(0));
        due("12 the first one's", 0, () -> x.wishOf(0));
        due("13 the first one's", 0, () -> x.reachOf(0));
        due("14 the first one's", 1, () -> x.paceOf(0));
        due("15 the first one's", 0, () -> x.plankOf(0));
        due("11 the twelfth one's", 4, () -> x.villageOf(11));
        due("12 the twelfth one's", 40, () -> x.wishOf(11));
        due("13 the twelfth one's", 20, () -> x.reachOf(11));
        due("14 the twelfth one's", 5, () -> x.paceOf(11));
        due("15 the twelfth one's", 39, () -> x.plankOf(11));
        due("11 another one's", 2, () -> x.villageOf(10));
        due("12 another one's", 20, () -> x.wishOf(10));
        due("13 another one's", 10, () -> x.reachOf(10));
        due("14 another one's", 3, () -> x.paceOf(10));
        due("15 another one's", 20, () -> x.plankOf(10));
    }

    private void standingOnIs0To40() {
        RopeChoices x = Bridges.of(0, 40, 0);
        dueNoSuchPlank("16 standingOn", x, x::standingOn);
        RopeChoices none = new RopeChoices();
        dueNoSuchPlank("16 standingOn without delegates", none, none::standingOn);
        due("16 on the first plank", 2, () -> x.standingOn(0));
        due("16 on the last plank", 1, () -> x.standingOn(40));
        due("16 beside the first plank", 0, () -> x.standingOn(1));
        due("16 beside the last plank", 0, () -> x.standingOn(39));
    }

    private void standingOnFromNoneToTwelve() {
        RopeChoices x = new RopeChoices();
        for (int i = 0; i < 12; i++) {
            int due = i;
            due("16 " + i + " stand there", due, () -> x.standingOn(7));
            x.send(1, 7, 3, 2);
        }
        due("16 twelve stand there", 12, () -> x.standingOn(7));
        x.setStrength(1);
        due("16 more than it bears", 12, () -> x.standingOn(7));
        x.lead(4, 8);
        x.persuade(5, 9);
        due("16 one was led away, one persuaded", 11, () -> x.standingOn(7));
        due("16 there is who was led", 1, () -> x.standingOn(8));
        due("16 there is nobody who wishes", 0, () -> x.standingOn(9));
    }

    private void spreadWithFewerThanTwo() {
        RopeChoices x = new RopeChoices();
        due("17 with none", 0, x::spread);
        x.send(0, 40, 20, 5);
        due("17 with one, on the last plank", 0, x::spread);
        x.lead(0, 20);
        due("17 with one, in the middle", 0, x::spread);
        x.send(1, 20, 20, 5);
        due("17 with two on a plank", 0, x::spread);
        x.lead(1, 0);
        due("17 with two", 20, x::spread);
        x.recall(0);
        due("17 with one again, on the first plank", 0, x::spread);
        x.recall(0);
        due("17 with none again", 0, x::spread);
    }

    private void spreadOfTheFarthest() {
        due("17 one plank", 1, () -> Bridges.of(20, 21).spread());
        due("17 from end to end", 40, () -> Bridges.of(40, 0).spread());
        due("17 the others are between", 36, () -> Bridges.of(20, 38, 20, 2, 21).spread());
        due("17 of twelve", 11, () -> Bridges.full().spread());
        RopeChoices x = Bridges.of(10, 20);
        x.persuade(0, 0);
        x.persuade(1, 40);
        due("17 where they stand, not what they wish", 10, x::spread);
    }

    private void treatyOfTwoVillagesOrMore() {
        RopeChoices x = new RopeChoices();
        due("18 without delegates", false, x::isTreaty);
        x.send(4, 20, 3, 2);
        due("18 of one", false, x::isTreaty);
        for (int i = 1; i < 11; i++) {
            x.send(4, 20, 3, 2);
            due("18 of one village", false, x::isTreaty);
        }
        x.send(0, 20, 3, 2);
        due("18 of two villages", true, x::isTreaty);
        x.recall(11);
        due("18 of one village again", false, x::isTreaty);
        for (int village = 0; village < 5; village++) {
            for (int other = 0; other < 5; other++) {
                int v = village;
                int w = other;
                due("18 of the villages " + v + " and " + w, v != w, () -> {
                    RopeChoices two = new RopeChoices();
                    two.send(v, 20, 3, 2);
                    two.send(w, 20, 3, 2);
                    return two.isTreaty();
                });
            }
        }
        due("18 of five villages", true, () -> Bridges.of(20, 20, 20, 20, 20).isTreaty());
        RopeChoices between = new RopeChoices();
        between.send(3, 20, 3, 2);
        between.send(1, 20, 3, 2);
        between.send(3, 20, 3, 2);
        due("18 the other village is between", true, between::isTreaty);
    }

    private void treatyUpToTwoPlanks() {
        due("18 on one plank", true, () -> Bridges.of(20, 20).isTreaty());
        due("18 one plank from each other", true, () -> Bridges.of(20, 21).isTreaty());
        due("18 two planks", true, () -> Bridges.of(20, 22).isTreaty());
        due("18 three planks", false, () -> Bridges.of(20, 23).isTreaty());
        due("18 two planks, down", true, () -> Bridges.of(22, 20).isTreaty());
        due("18 three planks, down", false, () -> Bridges.of(23, 20).isTreaty());
        due("18 at the first planks", true, () -> Bridges.of(0, 2, 1).isTreaty());
        due("18 at the last planks", true, () -> Bridges.of(40, 38, 39).isTreaty());
        due("18 each two planks from the next", false, () -> Bridges.of(20, 22, 24).isTreaty());
        due("18 two of one village are farther", false, () -> {
            RopeChoices x = new RopeChoices();
            x.send(0, 19, 3, 2);
            x.send(1, 20, 3, 2);
            x.send(0, 22, 3, 2);
            return x.isTreaty();
        });
        due("18 of twelve", true, () ->
            Bridges.of(20, 21, 22, 20, 21, 22, 20, 21, 22, 20, 21, 22).isTreaty());
        due("18 of twelve, one is farther", false, () ->
            Bridges.of(20, 21, 22, 20, 21, 22, 20, 21, 22, 20, 21, 23).isTreaty());
        RopeChoices x = Bridges.of(20, 22);
        x.persuade(0, 0);
        x.persuade(1, 40);
        due("18 where they stand, not what they wish", true, x::isTreaty);
    }

    private void questionsChangeNothing() {
        RopeChoices x = Bridges.of(20, 22, 22);
        dueUnchanged("8", 3, x, x::delegates);
        dueUnchanged("9", 0, x, x::rounds);
        dueUnchanged("10", 12, x, x::strength);
        dueUnchanged("11", 1, x, () -> x.villageOf(1));
        dueUnchanged("12", 22, x, () -> x.wishOf(1));
        dueUnchanged("13", 20, x, () -> x.reachOf(1));
        dueUnchanged("14", 5, x, () -> x.paceOf(1));
        dueUnchanged("15", 22, x, () -> x.plankOf(1));
        dueUnchanged("16", 2, x, () -> x.standingOn(22));
        dueUnchanged("17", 2, x, x::spread);
        dueUnchanged("18", true, x, x::isTreaty);
    }
}

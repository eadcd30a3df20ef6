/** Every promise of the document by its number: ordinary inputs, the edges, and wrong inputs. */
public final class PromisesTest {
    private static final Object INDEX = IndexOutOfBoundsException.class;
    private static final Object ARGUMENT = IllegalArgumentException.class;
    private static final Object STATE = IllegalStateException.class;
    private static final int[] NO_PLANKS = {-1, 41, Integer.MIN_VALUE, Integer.MAX_VALUE};
    private static final int[] NO_ROUNDS = {0, 51, -1, Integer.MIN_VALUE, Integer.MAX_VALUE};

    private static final Answers ANSWERS = new Answers();

    public static void main(String[] args) {
        promise01NewObject();
        promise02Send();
        promise02SendOrderOfExceptions();
        promise03Recall();
        promise04Persuade();
        promise05Lead();
        promise06SetStrength();
        promise07PassRounds();
        promise07PassRoundsWithoutRoom();
        promise07PassRoundsLooksOnceAtTheCompromise();
        promise08Delegates();
        promise09Rounds();
        promise10Strength();
        promises11To15OneDelegate();
        promise16StandingOn();
        promise17Spread();
        promise18IsTreaty();
        promise19Compromise();
        promise20CompromiseOf();
        promise21CompromiseWithout();
        promise22DecisiveOne();
        promise23DiscontentOf();
        promise24AllDiscontent();
        promise25BestPlank();
        promise26VotesFor();
        promise27WinnerOf();
        promise28CanLeadTo();
        promise29WouldStepTo();
        promise30IsStill();
        promise31PlankIn();
        promise32CompromiseIn();
        promise33RoundsUntilTreaty();
        promise34RoundsUntilStill();
        promise35BestStand();
        promise36MeanPlank();
        promise37Digest();
        questionsChangeNothing();
        refusedCallsChangeNothing();
        objectsAreApart();
        ANSWERS.end("PromisesTest");
    }

    private static void due(String what, Object due, Answers.Call call) {
        ANSWERS.due(what, due, call);
    }

    /** A bridge of delegates with reach 20 and pace 5, of the villages 0, 1, .. 4, 0, .. */
    private static RopeChoices bridge(int... wishes) {
        RopeChoices x = new RopeChoices();
        for (int i = 0; i < wishes.length; i++) {
            x.send(i % 5, wishes[i], 20, 5);
        }
        return x;
    }

    private static void duePlanks(String what, RopeChoices x, int... planks) {
        due(what + ": delegates()", planks.length, x::delegates);
        for (int i = 0; i < planks.length; i++) {
            int delegate = i;
            due(what + ": plankOf(" + i + ")", planks[i], () -> x.plankOf(delegate));
        }
    }

    private static void promise01NewObject() {
        RopeChoices x = new RopeChoices();
        due("1 delegates", 0, x::delegates);
        due("1 rounds", 0, x::rounds);
        due("1 strength", 12, x::strength);
        due("1 standingOn", 0, () -> x.standingOn(0));
    }

    private static void promise02Send() {
        RopeChoices x = new RopeChoices();
        due("2 least of all", 0, () -> x.send(0, 0, 0, 1));
        due("2 most of all", 1, () -> x.send(4, 40, 20, 5));
        duePlanks("2 they stand on the wished planks", x, 0, 40);
        for (int i = 2; i < 12; i++) {
            int number = i;
            due("2 number " + i, number, () -> x.send(1, 20, 3, 2));
        }
        due("2 a 13th", STATE, () -> x.send(1, 21, 3, 2));
        due("2 still 12", 12, x::delegates);

        RopeChoices narrow = new RopeChoices();
        narrow.setStrength(2);
        due("2 first on a plank", 0, () -> narrow.send(0, 9, 0, 1));
        due("2 second on a plank", 1, () -> narrow.send(0, 9, 0, 1));
        due("2 no room", STATE, () -> narrow.send(0, 9, 0, 1));
        due("2 room beside it", 2, () -> narrow.send(0, 10, 0, 1));
        due("2 a full bridge bears 12 on a plank", 11, () -> {
            RopeChoices full = bridge(7, 7, 7, 7, 7, 7, 7, 7, 7, 7, 7);
            return full.send(0, 7, 0, 1);
        });
    }

    private static void promise02SendOrderOfExceptions() {
        RopeChoices x = new RopeChoices();
        for (int village : new int[] {-1, 5, Integer.MIN_VALUE, Integer.MAX_VALUE}) {
            due("2 village " + village, INDEX, () -> x.send(village, 0, 0, 1));
            due("2 village first " + village, INDEX, () -> x.send(village, 0, -1, 0));
        }
        for (int wish : NO_PLANKS) {
            due("2 wish " + wish, INDEX, () -> x.send(0, wish, 0, 1));
            due("2 wish first " + wish, INDEX, () -> x.send(0, wish, 21, 6));
        }
        for (int reach : new int[] {-1, 21, Integer.MIN_VALUE, Integer.MAX_VALUE}) {
            due("2 reach " + reach, ARGUMENT, () -> x.send(0, 0, reach, 1));
        }
        for (int pace : new int[] {0, 6, -1, Integer.MIN_VALUE, Integer.MAX_VALUE}) {
            due("2 pace " + pace, ARGUMENT, () -> x.send(0, 0, 0, pace));
        }
        due("2 nobody was sent", 0, x::delegates);
        RopeChoices full = bridge(7, 7, 7, 7, 7, 7, 7, 7, 7, 7, 7, 7);
        due("2 index before state", INDEX, () -> full.send(5, 0, 0, 1));
        due("2 argument before state", ARGUMENT, () -> full.send(0, 0, 0, 6));
        due("2 state last", STATE, () -> full.send(0, 0, 0, 1));
    }

    private static void promise03Recall() {
        RopeChoices x = new RopeChoices();
        x.send(0, 1, 10, 1);
        x.send(1, 2, 11, 2);
        x.send(2, 3, 12, 3);
        x.send(3, 4, 13, 4);
        due("3 below", INDEX, () -> x.recall(-1));
        due("3 above", INDEX, () -> x.recall(4));
        due("3 far above", INDEX, () -> x.recall(Integer.MAX_VALUE));
        x.lead(1, 9);
        due("3 stood on", 9, () -> x.recall(1));
        duePlanks("3 one number less", x, 1, 3, 4);
        due("3 village", 2, () -> x.villageOf(1));
        due("3 wish", 3, () -> x.wishOf(1));
        due("3 reach", 12, () -> x.reachOf(1));
        due("3 pace", 3, () -> x.paceOf(1));
        due("3 last village", 3, () -> x.villageOf(2));
        due("3 nobody stands there", 0, () -> x.standingOn(9));
        due("3 the last one", 4, () -> x.recall(2));
        due("3 the first one", 1, () -> x.recall(0));
        duePlanks("3 who is left", x, 3);
        due("3 the only one", 3, () -> x.recall(0));
        due("3 nobody", INDEX, () -> x.recall(0));

        RopeChoices full = bridge(7, 7, 7, 7, 7, 7, 7, 7, 7, 7, 7, 8);
        due("3 of twelve", 7, () -> full.recall(0));
        due("3 the twelfth is the eleventh", 8, () -> full.plankOf(10));
        due("3 a place is free again", 11, () -> full.send(0, 7, 0, 1));
    }

    private static void promise04Persuade() {
        RopeChoices x = bridge(5, 6);
        due("4 the one before", 5, () -> x.persuade(0, 40));
        due("4 the new one", 40, () -> x.persuade(0, 40));
        due("4 to the first plank", 40, () -> x.persuade(0, 0));
        due("4 wishes", 0, () -> x.wishOf(0));
        duePlanks("4 they stand", x, 5, 6);
        due("4 the other one", 6, () -> x.wishOf(1));
        due("4 below", INDEX, () -> x.persuade(-1, 0));
        due("4 above", INDEX, () -> x.persuade(2, 0));
        for (int wish : NO_PLANKS) {
            due("4 wish " + wish, INDEX, () -> x.persuade(0, wish));
        }
        x.setStrength(1);
        due("4 needs no room", 0, () -> x.persuade(0, 6));
    }

    private static void promise05Lead() {
        RopeChoices x = new RopeChoices();
        x.send(0, 20, 5, 1);
        x.send(1, 25, 0, 1);
        due("5 as far as willing", 20, () -> x.lead(0, 15));
        due("5 farther than the pace", 15, () -> x.lead(0, 25));
        due("5 where this one stands", 25, () -> x.lead(0, 25));
        due("5 not willing, above", STATE, () -> x.lead(0, 26));
        due("5 not willing, below", STATE, () -> x.lead(0, 14));
        due("5 below", INDEX, () -> x.lead(-1, 20));
        due("5 above", INDEX, () -> x.lead(2, 20));
        for (int plank : NO_PLANKS) {
            due("5 plank " + plank, INDEX, () -> x.lead(0, plank));
        }
        x.setStrength(1);
        due("5 a full plank, but this one stands there", 25, () -> x.lead(0, 25));
        due("5 away", 25, () -> x.lead(0, 24));
        due("5 no room", STATE, () -> x.lead(0, 25));
        duePlanks("5 stays", x, 24, 25);
        x.persuade(0, 10);
        due("5 not willing to stand where this one stands", STATE, () -> x.lead(0, 24));
        due("5 to the wished one", 24, () -> x.lead(0, 10));
    }

    private static void promise06SetStrength() {
        RopeChoices x = bridge(9, 9, 9);
        for (int strength : new int[] {0, 13, -1, Integer.MIN_VALUE, Integer.MAX_VALUE}) {
            due("6 strength " + strength, ARGUMENT, () -> x.setStrength(strength));
        }
        due("6 the first one", 12, () -> x.setStrength(1));
        due("6 the least", 1, () -> x.setStrength(12));
        due("6 the most", 12, () -> x.setStrength(2));
        due("6 they stay", 3, () -> x.standingOn(9));
        due("6 and nobody comes", STATE, () -> x.send(0, 9, 0, 1));
        x.recall(0);
        due("6 still full", STATE, () -> x.send(0, 9, 0, 1));
        x.recall(0);
        due("6 room again", 1, () -> x.send(0, 9, 0, 1));
    }

    private static void promise07PassRounds() {
        RopeChoices x = new RopeChoices();
        x.send(0, 5, 20, 3);
        x.send(1, 30, 20, 4);
        x.send(2, 12, 6, 1);
        for (int rounds : NO_ROUNDS) {
            due("7 rounds " + rounds, ARGUMENT, () -> x.passRounds(rounds));
        }
        due("7 no round went by", 0, x::rounds);
        due("7 two go", 2, () -> x.passRounds(1));
        duePlanks("7 as far as the pace", x, 8, 26, 12);
        due("7 two go twice", 4, () -> x.passRounds(2));
        duePlanks("7 no farther than the compromise", x, 12, 18, 12);
        due("7 until nobody goes", 2, () -> x.passRounds(50));
        duePlanks("7 together", x, 12, 12, 12);
        due("7 rounds", 53, x::rounds);

        RopeChoices shy = new RopeChoices();
        shy.send(0, 0, 3, 2);
        shy.send(1, 10, 0, 5);
        shy.send(2, 40, 4, 5);
        due("7 no farther than willing", 3, () -> shy.passRounds(10));
        duePlanks("7 no farther than willing", shy, 3, 10, 36);
        shy.persuade(2, 20);
        shy.persuade(0, 40);
        due("7 back towards the wish", 4 + 17, () -> shy.passRounds(50));
        duePlanks("7 back towards the wish", shy, 37, 10, 16);

        RopeChoices nobody = new RopeChoices();
        due("7 without delegates", 0, () -> nobody.passRounds(50));
        due("7 rounds go by all the same", 50, nobody::rounds);
    }

    private static void promise07PassRoundsWithoutRoom() {
        RopeChoices x = new RopeChoices();
        x.setStrength(1);
        x.send(0, 10, 20, 5);
        x.send(1, 11, 5, 2);
        x.send(3, 20, 20, 5);
        x.send(4, 21, 9, 1);
        due("7 by numbers", 2, () -> x.passRounds(1));
        duePlanks("7 by numbers", x, 10, 11, 15, 20);
        due("7 who finds no room stays, not half a step", 1, () -> x.passRounds(1));
        duePlanks("7 who finds no room stays", x, 10, 11, 15, 19);

        due("7 room that one has left in this round", 2, () -> fullRow(10, 9).passRounds(1));
        duePlanks("7 room that one has left", afterOneRound(fullRow(10, 9)), 11, 10, 20, 21, 22);
        due("7 room that one leaves too late", 1, () -> fullRow(9, 10).passRounds(1));
        duePlanks("7 room left too late", afterOneRound(fullRow(9, 10)), 9, 11, 20, 21, 22);
    }

    /** Two who go up to the compromise 20, one plank a round, on planks that bear one each. */
    private static RopeChoices fullRow(int first, int second) {
        RopeChoices x = new RopeChoices();
        x.setStrength(1);
        for (int wish : new int[] {first, second, 20, 21, 22}) {
            x.send(0, wish, 20, 1);
        }
        return x;
    }

    private static RopeChoices afterOneRound(RopeChoices x) {
        x.passRounds(1);
        return x;
    }

    private static void promise07PassRoundsLooksOnceAtTheCompromise() {
        RopeChoices x = new RopeChoices();
        x.send(0, 0, 20, 5);
        x.send(1, 10, 20, 5);
        x.send(2, 20, 20, 5);
        x.persuade(1, 30);
        x.lead(1, 10);
        due("7 the median does not follow them", 2, () -> x.passRounds(1));
        duePlanks("7 the median does not follow them", x, 5, 10, 15);

        RopeChoices swung = new RopeChoices();
        swung.send(0, 0, 20, 5);
        swung.send(1, 20, 20, 5);
        swung.persuade(0, 25);
        due("7 one goes past the other's goal", 2, () -> swung.passRounds(1));
        duePlanks("7 the compromise was 0", swung, 5, 15);
    }

    private static void promise08Delegates() {
        RopeChoices x = bridge(1, 1, 2);
        due("8 three", 3, x::delegates);
        x.recall(2);
        due("8 two", 2, x::delegates);
    }

    private static void promise09Rounds() {
        RopeChoices x = bridge(1, 1, 2);
        x.passRounds(1);
        x.passRounds(50);
        due("9 rounds", 51, x::rounds);
        x.plankIn(0, 7);
        x.roundsUntilTreaty();
        due("9 looking ahead lets none go by", 51, x::rounds);
    }

    private static void promise10Strength() {
        RopeChoices x = new RopeChoices();
        due("10 at first", 12, x::strength);
        x.setStrength(5);
        due("10 then", 5, x::strength);
    }

    private static void promises11To15OneDelegate() {
        RopeChoices x = new RopeChoices();
        x.send(4, 30, 20, 5);
        x.send(3, 17, 6, 2);
        x.lead(1, 23);
        due("11 villageOf", 3, () -> x.villageOf(1));
        due("12 wishOf", 17, () -> x.wishOf(1));
        due("13 reachOf", 6, () -> x.reachOf(1));
        due("14 paceOf", 2, () -> x.paceOf(1));
        due("15 plankOf", 23, () -> x.plankOf(1));
        due("11 the first", 4, () -> x.villageOf(0));
        due("12 the first", 30, () -> x.wishOf(0));
        due("13 the first", 20, () -> x.reachOf(0));
        due("14 the first", 5, () -> x.paceOf(0));
        due("15 the first", 30, () -> x.plankOf(0));
        for (int none : new int[] {-1, 2, 11, 12, Integer.MIN_VALUE, Integer.MAX_VALUE}) {
            due("11 villageOf " + none, INDEX, () -> x.villageOf(none));
            due("12 wishOf " + none, INDEX, () -> x.wishOf(none));
            due("13 reachOf " + none, INDEX, () -> x.reachOf(none));
            due("14 paceOf " + none, INDEX, () -> x.paceOf(none));
            due("15 plankOf " + none, INDEX, () -> x.plankOf(none));
        }
    }

    private static void promise16StandingOn() {
        RopeChoices x = bridge(0, 40, 40, 8);
        due("16 the first plank", 1, () -> x.standingOn(0));
        due("16 the last plank", 2, () -> x.standingOn(40));
        due("16 nobody", 0, () -> x.standingOn(9));
        x.lead(3, 9);
        due("16 where they stand, not what they wish", 1, () -> x.standingOn(9));
        x.recall(3);
        due("16 who left does not count", 0, () -> x.standingOn(9));
        for (int plank : NO_PLANKS) {
            due("16 plank " + plank, INDEX, () -> x.standingOn(plank));
        }
    }

    private static void promise17Spread() {
        due("17 none", 0, () -> bridge().spread());
        due("17 one", 0, () -> bridge(33).spread());
        due("17 on one plank", 0, () -> bridge(33, 33).spread());
        due("17 on the first plank", 0, () -> bridge(0, 0).spread());
        due("17 on the last plank", 0, () -> bridge(40, 40).spread());
        due("17 the ends", 40, () -> bridge(7, 40, 0, 20).spread());
        due("17 some", 13, () -> bridge(20, 7, 12).spread());
    }

    private static void promise18IsTreaty() {
        due("18 none", false, () -> bridge().isTreaty());
        due("18 one", false, () -> bridge(4).isTreaty());
        due("18 two planks apart", true, () -> bridge(4, 6).isTreaty());
        due("18 three planks apart", false, () -> bridge(4, 7).isTreaty());
        due("18 the two farthest count", false, () -> bridge(4, 6, 8).isTreaty());
        RopeChoices one = new RopeChoices();
        one.send(2, 5, 1, 1);
        one.send(2, 5, 1, 1);
        due("18 of one village", false, one::isTreaty);
        one.send(3, 7, 1, 1);
        due("18 of two villages", true, one::isTreaty);
        one.recall(2);
        due("18 of one village again", false, one::isTreaty);
        one.send(2, 6, 1, 1);
        one.recall(0);
        one.recall(0);
        one.send(0, 6, 1, 1);
        due("18 the village 0 counts", true, one::isTreaty);
    }

    private static void promise19Compromise() {
        due("19 none", STATE, () -> bridge().compromise());
        due("19 one", 33, () -> bridge(33).compromise());
        due("19 the lower of two", 5, () -> bridge(30, 5).compromise());
        due("19 the middle of three", 12, () -> bridge(30, 5, 12).compromise());
        due("19 the second of four", 12, () -> bridge(40, 30, 12, 5).compromise());
        due("19 twice the same", 5, () -> bridge(5, 5, 40).compromise());
        due("19 of twelve", 6, () -> bridge(12, 11, 10, 9, 8, 7, 6, 5, 4, 3, 2, 1).compromise());
        RopeChoices x = bridge(0, 0, 10);
        x.lead(0, 20);
        due("19 where they stand, not what they wish", 10, x::compromise);
    }

    private static void promise20CompromiseOf() {
        RopeChoices x = new RopeChoices();
        x.send(0, 30, 20, 1);
        x.send(4, 7, 20, 1);
        x.send(0, 10, 20, 1);
        x.send(0, 20, 20, 1);
        due("20 of the village 0", 20, () -> x.compromiseOf(0));
        due("20 of the village 4", 7, () -> x.compromiseOf(4));
        due("20 it has none", STATE, () -> x.compromiseOf(2));
        x.lead(0, 15);
        due("20 where they stand", 15, () -> x.compromiseOf(0));
        x.recall(1);
        due("20 it has none now", STATE, () -> x.compromiseOf(4));
        due("20 without delegates", STATE, () -> bridge().compromiseOf(0));
        for (int village : new int[] {-1, 5, Integer.MIN_VALUE, Integer.MAX_VALUE}) {
            due("20 village " + village, INDEX, () -> x.compromiseOf(village));
        }
    }

    private static void promise21CompromiseWithout() {
        RopeChoices x = bridge(30, 5, 12, 20);
        due("21 without 30", 12, () -> x.compromiseWithout(0));
        due("21 without 5", 20, () -> x.compromiseWithout(1));
        due("21 without 12", 20, () -> x.compromiseWithout(2));
        due("21 without 20", 12, () -> x.compromiseWithout(3));
        due("21 below", INDEX, () -> x.compromiseWithout(-1));
        due("21 above", INDEX, () -> x.compromiseWithout(4));
        due("21 no others", STATE, () -> bridge(3).compromiseWithout(0));
        due("21 nobody", INDEX, () -> bridge().compromiseWithout(0));
        due("21 the other of two", 9, () -> bridge(3, 9).compromiseWithout(0));
        x.persuade(2, 40);
        x.lead(3, 10);
        due("21 where they stand, not what they wish", 10, () -> x.compromiseWithout(0));
    }

    private static void promise22DecisiveOne() {
        due("22 none", STATE, () -> bridge().decisiveOne());
        due("22 one", 0, () -> bridge(3).decisiveOne());
        due("22 the middle one", 2, () -> bridge(30, 5, 12).decisiveOne());
        due("22 the smallest number of several", 1, () -> bridge(30, 12, 5, 12, 12).decisiveOne());
        due("22 the last one", 3, () -> bridge(30, 40, 5, 12).decisiveOne());
    }

    private static void promise23DiscontentOf() {
        RopeChoices x = bridge(30, 5, 12);
        due("23 above", 18, () -> x.discontentOf(0));
        due("23 below", 7, () -> x.discontentOf(1));
        due("23 content", 0, () -> x.discontentOf(2));
        x.persuade(2, 40);
        due("23 with the wish, not with the stand", 28, () -> x.discontentOf(2));
        due("23 no such one", INDEX, () -> x.discontentOf(3));
        due("23 no such one", INDEX, () -> x.discontentOf(-1));
        due("23 nobody", INDEX, () -> bridge().discontentOf(0));
    }

    private static void promise24AllDiscontent() {
        due("24 none", 0, () -> bridge().allDiscontent());
        due("24 one", 0, () -> bridge(4).allDiscontent());
        due("24 three", 25, () -> bridge(30, 5, 12).allDiscontent());
        RopeChoices x = bridge(30, 5, 12);
        x.persuade(2, 40);
        due("24 three", 53, x::allDiscontent);
        due("24 the most", 240, () ->
            bridge(0, 0, 0, 0, 0, 0, 40, 40, 40, 40, 40, 40).allDiscontent());
    }

    private static void promise25BestPlank() {
        due("25 none", STATE, () -> bridge().bestPlank());
        due("25 the last plank", 40, () -> bridge(40).bestPlank());
        due("25 the second plank", 1, () -> bridge(1).bestPlank());
        due("25 the first plank", 0, () -> bridge(0).bestPlank());
        due("25 the smallest of several", 10, () -> bridge(30, 10).bestPlank());
        due("25 of three", 12, () -> bridge(30, 5, 12).bestPlank());
        RopeChoices x = bridge(30, 10, 12);
        x.persuade(1, 35);
        due("25 the wishes count", 30, x::bestPlank);
    }

    private static void promise26VotesFor() {
        RopeChoices x = bridge(10, 20, 30);
        due("26 nearer to two", 2, () -> x.votesFor(12, 29));
        due("26 nearer to one", 1, () -> x.votesFor(29, 12));
        due("26 as near is no vote", 1, () -> x.votesFor(15, 25));
        due("26 nor the other way", 1, () -> x.votesFor(25, 15));
        due("26 the ends", 1, () -> x.votesFor(0, 40));
        x.lead(2, 10);
        due("26 the wishes count, not the stands", 1, () -> x.votesFor(40, 0));
        due("26 nobody votes", 0, () -> bridge().votesFor(0, 40));
        for (int plank : NO_PLANKS) {
            due("26 first " + plank, INDEX, () -> x.votesFor(plank, 0));
            due("26 second " + plank, INDEX, () -> x.votesFor(0, plank));
            due("26 both " + plank, INDEX, () -> x.votesFor(plank, plank));
        }
        due("26 the same", ARGUMENT, () -> x.votesFor(7, 7));
        due("26 the same, nobody", ARGUMENT, () -> bridge().votesFor(0, 0));
    }

    private static void promise27WinnerOf() {
        RopeChoices x = bridge(10, 20, 30);
        due("27 the first", 12, () -> x.winnerOf(12, 29));
        due("27 the second", 12, () -> x.winnerOf(29, 12));
        due("27 a greater number wins", 21, () -> x.winnerOf(0, 21));
        due("27 as many", 15, () -> x.winnerOf(25, 15));
        due("27 as many", 15, () -> x.winnerOf(15, 25));
        due("27 nobody votes", 3, () -> bridge().winnerOf(4, 3));
        for (int plank : NO_PLANKS) {
            due("27 first " + plank, INDEX, () -> x.winnerOf(plank, 0));
            due("27 second " + plank, INDEX, () -> x.winnerOf(0, plank));
            due("27 both " + plank, INDEX, () -> x.winnerOf(plank, plank));
        }
        due("27 the same", ARGUMENT, () -> x.winnerOf(40, 40));
    }

    private static void promise28CanLeadTo() {
        RopeChoices x = new RopeChoices();
        x.send(0, 20, 5, 1);
        x.send(1, 25, 0, 1);
        due("28 willing", true, () -> x.canLeadTo(0, 25));
        due("28 willing", true, () -> x.canLeadTo(0, 15));
        due("28 where this one stands", true, () -> x.canLeadTo(0, 20));
        due("28 not willing", false, () -> x.canLeadTo(0, 26));
        due("28 not willing", false, () -> x.canLeadTo(0, 14));
        x.setStrength(1);
        due("28 no room", false, () -> x.canLeadTo(0, 25));
        due("28 a full plank, but this one stands there", true, () -> x.canLeadTo(1, 25));
        x.persuade(0, 10);
        due("28 not willing to stand here", false, () -> x.canLeadTo(0, 20));
        due("28 below", INDEX, () -> x.canLeadTo(-1, 20));
        due("28 above", INDEX, () -> x.canLeadTo(2, 20));
        for (int plank : NO_PLANKS) {
            due("28 plank " + plank, INDEX, () -> x.canLeadTo(0, plank));
        }
        duePlanks("28 nobody was led", x, 20, 25);
    }

    private static void promise29WouldStepTo() {
        RopeChoices x = new RopeChoices();
        x.send(0, 5, 20, 3);
        x.send(1, 30, 20, 4);
        x.send(2, 12, 6, 1);
        due("29 up", 8, () -> x.wouldStepTo(0));
        due("29 down", 26, () -> x.wouldStepTo(1));
        due("29 nowhere", 12, () -> x.wouldStepTo(2));
        x.persuade(2, 35);
        due("29 back towards the wish", 13, () -> x.wouldStepTo(2));
        x.persuade(2, 3);
        due("29 back towards the wish", 11, () -> x.wouldStepTo(2));
        x.lead(0, 10);
        due("29 no farther than the compromise", 12, () -> x.wouldStepTo(0));
        x.setStrength(1);
        due("29 whether there is room or not", 12, () -> x.wouldStepTo(0));
        due("29 below", INDEX, () -> x.wouldStepTo(-1));
        due("29 above", INDEX, () -> x.wouldStepTo(3));
    }

    private static void promise30IsStill() {
        due("30 none", true, () -> bridge().isStill());
        due("30 one", true, () -> bridge(4).isStill());
        due("30 two apart", false, () -> bridge(4, 5).isStill());
        due("30 two together", true, () -> bridge(5, 5).isStill());
        RopeChoices x = bridge(4, 5);
        x.setStrength(1);
        due("30 no room", true, x::isStill);
        RopeChoices unwilling = new RopeChoices();
        unwilling.send(0, 4, 0, 1);
        unwilling.send(1, 9, 0, 1);
        due("30 not willing", true, unwilling::isStill);
        unwilling.persuade(1, 10);
        due("30 back towards the wish", false, unwilling::isStill);
    }

    private static void promise31PlankIn() {
        RopeChoices x = new RopeChoices();
        x.send(0, 5, 20, 3);
        x.send(1, 30, 20, 4);
        x.send(2, 12, 6, 1);
        due("31 behind one", 26, () -> x.plankIn(1, 1));
        due("31 behind two", 22, () -> x.plankIn(1, 2));
        due("31 behind four", 14, () -> x.plankIn(1, 4));
        due("31 behind five", 12, () -> x.plankIn(1, 5));
        due("31 behind fifty", 12, () -> x.plankIn(1, 50));
        due("31 the first", 11, () -> x.plankIn(0, 2));
        duePlanks("31 nothing is changed", x, 5, 30, 12);
        for (int rounds : NO_ROUNDS) {
            due("31 rounds " + rounds, ARGUMENT, () -> x.plankIn(0, rounds));
            due("31 nobody first " + rounds, INDEX, () -> x.plankIn(3, rounds));
        }
        due("31 below", INDEX, () -> x.plankIn(-1, 1));
        due("31 above", INDEX, () -> x.plankIn(3, 1));
    }

    private static void promise32CompromiseIn() {
        RopeChoices x = new RopeChoices();
        x.send(0, 10, 0, 1);
        x.send(1, 20, 0, 1);
        x.send(2, 30, 0, 1);
        x.persuade(0, 40);
        due("32 behind one", 20, () -> x.compromiseIn(1));
        due("32 behind ten", 20, () -> x.compromiseIn(10));
        due("32 behind eleven", 21, () -> x.compromiseIn(11));
        due("32 behind twenty", 30, () -> x.compromiseIn(20));
        due("32 behind fifty", 30, () -> x.compromiseIn(50));
        due("32 now", 20, x::compromise);
        for (int rounds : NO_ROUNDS) {
            due("32 rounds " + rounds, ARGUMENT, () -> x.compromiseIn(rounds));
            due("32 rounds first " + rounds, ARGUMENT, () -> bridge().compromiseIn(rounds));
        }
        due("32 none", STATE, () -> bridge().compromiseIn(1));
    }

    /** Rows of village, plank, reach, pace and the wish from then on; planks bear two each. */
    private static RopeChoices homeward(int[][] delegates) {
        RopeChoices x = new RopeChoices();
        for (int[] d : delegates) {
            x.persuade(x.send(d[0], d[1], d[2], d[3]), d[4]);
        }
        x.setStrength(2);
        return x;
    }

    private static void promise33RoundsUntilTreaty() {
        due("33 none", -1, () -> bridge().roundsUntilTreaty());
        due("33 one", -1, () -> bridge(5).roundsUntilTreaty());
        due("33 now", 0, () -> bridge(5, 7).roundsUntilTreaty());
        due("33 behind one", 1, () -> bridge(5, 8).roundsUntilTreaty());
        due("33 behind four", 4, () -> bridge(5, 27).roundsUntilTreaty());
        due("33 never", -1, () -> bridge(5, 28).roundsUntilTreaty());
        RopeChoices slow = new RopeChoices();
        slow.send(0, 0, 20, 1);
        slow.send(1, 40, 20, 1);
        slow.persuade(1, 18);
        due("33 slowly", 38, slow::roundsUntilTreaty);
        slow.passRounds(37);
        due("33 behind one more", 1, slow::roundsUntilTreaty);
        slow.passRounds(1);
        due("33 there it is", 0, slow::roundsUntilTreaty);
        RopeChoices late = homeward(new int[][] {
            {0, 40, 0, 1, 1},
            {4, 31, 18, 1, 16},
            {2, 40, 0, 1, 0},
            {2, 40, 14, 1, 0},
            {2, 40, 0, 1, 0},
            {3, 39, 11, 1, 13},
        });
        due("33 late", 46, late::roundsUntilTreaty);
        RopeChoices one = new RopeChoices();
        one.send(1, 5, 20, 5);
        one.send(1, 5, 20, 5);
        due("33 of one village", -1, one::roundsUntilTreaty);
    }

    private static void promise34RoundsUntilStill() {
        due("34 none", 0, () -> bridge().roundsUntilStill());
        due("34 one", 0, () -> bridge(5).roundsUntilStill());
        due("34 behind one", 1, () -> bridge(5, 6).roundsUntilStill());
        due("34 behind four", 4, () -> bridge(5, 25).roundsUntilStill());
        due("34 no farther than willing", 4, () -> bridge(0, 25, 0).roundsUntilStill());
        RopeChoices slow = new RopeChoices();
        slow.send(0, 0, 0, 1);
        slow.send(1, 40, 0, 1);
        slow.persuade(1, 0);
        due("34 slowly", 40, slow::roundsUntilStill);
        slow.passRounds(39);
        due("34 behind one more", 1, slow::roundsUntilStill);
        slow.passRounds(1);
        due("34 there it is", 0, slow::roundsUntilStill);
        RopeChoices late = homeward(new int[][] {
            {3, 37, 18, 2, 13},
            {0, 40, 0, 1, 0},
            {1, 39, 20, 5, 15},
            {0, 39, 1, 2, 2},
            {4, 39, 0, 4, 19},
            {4, 0, 0, 2, 39},
            {3, 2, 0, 1, 40},
            {3, 9, 0, 2, 40},
            {4, 39, 0, 4, 8},
            {3, 35, 8, 5, 38},
            {4, 2, 0, 1, 40},
            {1, 35, 2, 5, 39},
        });
        due("34 late", 90, late::roundsUntilStill);
        late.passRounds(50);
        due("34 still late", 40, late::roundsUntilStill);
    }

    private static void promise35BestStand() {
        due("35 alone", 17, () -> bridge(17).bestStand(0));
        due("35 alone, near the end", 1, () -> bridge(1).bestStand(0));
        RopeChoices two = bridge(20, 13);
        due("35 the other one is lower", 13, () -> two.bestStand(0));
        due("35 the other one is higher", 13, () -> two.bestStand(1));
        RopeChoices three = bridge(40, 10, 30);
        due("35 the upper end of what this one can bring about", 30, () -> three.bestStand(0));
        three.persuade(0, 0);
        due("35 the lower end, from the smallest plank", 0, () -> three.bestStand(0));
        three.persuade(0, 25);
        due("35 just the wish, willing or not", 25, () -> three.bestStand(0));
        three.lead(1, 20);
        three.persuade(0, 40);
        three.persuade(2, 0);
        due("35 where the others stand, not what they wish", 30, () -> three.bestStand(0));
        RopeChoices five = bridge(0, 10, 20, 30, 40);
        due("35 of five, the lower neighbour", 0, () -> five.bestStand(0));
        due("35 of five, the upper neighbour", 20, () -> five.bestStand(4));
        RopeChoices pinned = bridge(40, 0, 0, 40);
        due("35 all planks bring the same", 0, () -> pinned.bestStand(0));
        RopeChoices full = bridge(39, 38);
        full.setStrength(1);
        due("35 whatever it bears", 38, () -> full.bestStand(0));
        RopeChoices shy = new RopeChoices();
        shy.send(0, 0, 0, 1);
        shy.persuade(0, 40);
        due("35 the last plank", 40, () -> shy.bestStand(0));
        duePlanks("35 nothing is changed", shy, 0);
        due("35 below", INDEX, () -> two.bestStand(-1));
        due("35 above", INDEX, () -> two.bestStand(2));
        due("35 nobody", INDEX, () -> bridge().bestStand(0));
    }

    private static void promise36MeanPlank() {
        due("36 none", 0.0, () -> bridge().meanPlank());
        due("36 one", 40.0, () -> bridge(40).meanPlank());
        due("36 a half", 12.5, () -> bridge(12, 13).meanPlank());
        due("36 a third", 1.0 / 3.0, () -> bridge(0, 0, 1).meanPlank());
        due("36 each delegate counts", 7.5, () -> bridge(0, 10, 10, 10).meanPlank());
        RopeChoices x = bridge(0, 10);
        x.persuade(0, 40);
        due("36 where they stand", 5.0, x::meanPlank);
    }

    private static void promise37Digest() {
        due("37 none", folded(0, 0, 12, 0, 0, 1, 0, 0), () -> bridge().digest());
        due("37 one", folded(1, 0, 12, 0, 0, 1, 9, 0, 9, 0, 0,
                0, 9, 20, 5, 9, 9, 9, 0), () -> bridge(9).digest());
        due("37 two", folded(2, 0, 12, 7, 0, 0, 13, 1, 13, 7, 2,
                0, 20, 20, 5, 20, 15, 13, 7,
                1, 13, 20, 5, 13, 13, 13, 0), () -> bridge(20, 13).digest());
        RopeChoices x = bridge(20, 13);
        x.passRounds(2);
        x.setStrength(3);
        due("37 a treaty", folded(2, 2, 3, 0, 1, 1, 13, 0, 13, 7, 0,
                0, 20, 20, 5, 13, 13, 13, 7,
                1, 13, 20, 5, 13, 13, 13, 0), x::digest);
    }

    private static long folded(int... numbers) {
        long d = 1933;
        for (int x : numbers) {
            d = d * 31 + x;
        }
        return d;
    }

    private static void questionsChangeNothing() {
        RopeChoices x = bridge(3, 30, 12, 40, 12);
        x.setStrength(2);
        x.passRounds(1);
        long before = x.digest();
        x.plankIn(1, 50);
        x.compromiseIn(50);
        x.roundsUntilTreaty();
        x.roundsUntilStill();
        x.isStill();
        x.bestStand(2);
        x.compromiseWithout(1);
        x.compromiseOf(1);
        x.canLeadTo(0, 12);
        x.wouldStepTo(0);
        x.winnerOf(3, 4);
        due("questions change nothing", before, x::digest);
    }

    private static void refusedCallsChangeNothing() {
        RopeChoices x = bridge(3, 30, 12, 40, 12);
        x.setStrength(1);
        long before = x.digest();
        due("no room", STATE, () -> x.send(0, 12, 1, 1));
        due("a bad pace", ARGUMENT, () -> x.send(0, 1, 1, 0));
        due("no such delegate", INDEX, () -> x.recall(5));
        due("no such plank", INDEX, () -> x.persuade(0, 41));
        due("no room to lead", STATE, () -> x.lead(0, 12));
        due("a bad strength", ARGUMENT, () -> x.setStrength(13));
        due("bad rounds", ARGUMENT, () -> x.passRounds(51));
        due("refused calls change nothing", before, x::digest);
    }

    private static void objectsAreApart() {
        RopeChoices one = bridge(3, 30);
        RopeChoices other = bridge(7);
        one.passRounds(3);
        one.setStrength(4);
        due("another object's rounds", 0, other::rounds);
        due("another object's strength", 12, other::strength);
        duePlanks("another object's delegates", other, 7);
    }
}

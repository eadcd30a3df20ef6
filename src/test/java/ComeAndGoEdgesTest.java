/** The boundary cases of the promises 1 to 7: delegates come and go. */
public final class ComeAndGoEdgesTest extends Edges {
    public static void main(String[] args) {
        new ComeAndGoEdgesTest().ask();
    }

    @Override
    void askAll() {
        newObject();
        sendVillageIs0To4();
        sendWishIs0To40();
        sendReachIs0To20();
        sendPaceIs1To5();
        sendTwelveAtMost();
        sendNeedsRoom();
        sendCountsWhoStandsThere();
        sendThrowsTheFirstNamed();
        recallNoSuchDelegate();
        recallGreaterNumbersAreOneLess();
        persuadeNoSuchDelegateOrPlank();
        persuadeToTheEndsAndToTheSame();
        leadNoSuchDelegateOrPlank();
        leadAsFarAsWilling();
        leadNeedsRoomOnAnotherPlank();
        leadThrowsTheFirstNamed();
        setStrengthIs1To12();
        setStrengthLetsThemStay();
        passRoundsIs1To50();
        passRoundsWithoutDelegates();
        passRoundsCountsWhoWent();
        roundStepsEndAtTheGoal();
        roundNeedsRoomWhereTheStepLeads();
        roundGoesByNumbers();
        roundLooksAtTheCompromiseOnce();
    }

    private void newObject() {
        RopeChoices x = new RopeChoices();
        due("1 without delegates", 0, x::delegates);
        due("1 at the round 0", 0, x::rounds);
        due("1 the strength is 12, at first", 12, x::strength);
        for (int plank = 0; plank <= 40; plank++) {
            int p = plank;
            due("1 nobody stands on " + p, 0, () -> x.standingOn(p));
        }
        for (int village = 0; village <= 4; village++) {
            int v = village;
            due("1 nobody is of the village " + v, STATE, () -> x.compromiseOf(v));
        }
        due("1 the first one is number 0", 0, () -> x.send(2, 20, 3, 2));
    }

    // ---- send

    private void sendVillageIs0To4() {
        RopeChoices x = Bridges.of(9);
        dueNoSuchVillage("2 send", x, village -> x.send(village, 20, 3, 2));
        due("2 the first village", 1, () -> x.send(0, 20, 3, 2));
        due("2 the last village", 2, () -> x.send(4, 20, 3, 2));
        due("2 it is of the first village", 0, () -> x.villageOf(1));
        due("2 it is of the last village", 4, () -> x.villageOf(2));
    }

    private void sendWishIs0To40() {
        RopeChoices x = Bridges.of(9);
        dueNoSuchPlank("2 send", x, wish -> x.send(1, wish, 3, 2));
        due("2 the first plank", 1, () -> x.send(1, 0, 3, 2));
        due("2 the last plank", 2, () -> x.send(1, 40, 3, 2));
        duePlanks("2 on the wished plank, at first", x, 9, 0, 40);
        due("2 it wishes for the first plank", 0, () -> x.wishOf(1));
        due("2 it wishes for the last plank", 40, () -> x.wishOf(2));
    }

    private void sendReachIs0To20() {
        RopeChoices x = Bridges.of(9);
        for (int reach : new int[] {-1, 21, FAR_BELOW, FAR_ABOVE}) {
            dueUnchanged("2 reach " + reach, ARGUMENT, x, () -> x.send(1, 20, reach, 2));
        }
        due("2 the least reach", 1, () -> x.send(1, 20, 0, 2));
        due("2 the greatest reach", 2, () -> x.send(1, 20, 20, 2));
        due("2 it has the least reach", 0, () -> x.reachOf(1));
        due("2 it has the greatest reach", 20, () -> x.reachOf(2));
    }

    private void sendPaceIs1To5() {
        RopeChoices x = Bridges.of(9);
        for (int pace : new int[] {0, 6, -1, FAR_BELOW, FAR_ABOVE}) {
            dueUnchanged("2 pace " + pace, ARGUMENT, x, () -> x.send(1, 20, 3, pace));
        }
        due("2 the least pace", 1, () -> x.send(1, 20, 3, 1));
        due("2 the greatest pace", 2, () -> x.send(1, 20, 3, 5));
        due("2 it has the least pace", 1, () -> x.paceOf(1));
        due("2 it has the greatest pace", 5, () -> x.paceOf(2));
    }

    private void sendTwelveAtMost() {
        RopeChoices x = Bridges.of(5, 6, 7, 8, 9, 10, 11, 12, 13, 14, 15);
        due("2 the twelfth", 11, () -> x.send(1, 16, 3, 2));
        dueUnchanged("2 there are 12, and room on that plank", STATE, x, () -> x.send(1, 30, 3, 2));
        dueUnchanged("2 there are 12, and room beside one", STATE, x, () -> x.send(1, 16, 3, 2));
        x.recall(4);
        due("2 the twelfth again", 11, () -> x.send(1, 30, 3, 2));
        dueUnchanged("2 there are 12 again", STATE, x, () -> x.send(1, 31, 3, 2));
    }

    private void sendNeedsRoom() {
        for (int strength = 1; strength <= 11; strength++) {
            RopeChoices x = new RopeChoices();
            x.setStrength(strength);
            for (int i = 0; i < strength; i++) {
                int number = i;
                due("2 room for one more, of strength " + strength, number,
                    () -> x.send(1, 20, 3, 2));
            }
            dueUnchanged("2 no room, of strength " + strength, STATE, x,
                () -> x.send(1, 20, 3, 2));
            due("2 room on the plank before it", strength, () -> x.send(1, 19, 3, 2));
        }
        RopeChoices all = Bridges.of(7, 7, 7, 7, 7, 7, 7, 7, 7, 7, 7);
        due("2 room for the twelfth, of strength 12", 11, () -> all.send(1, 7, 3, 2));
        due("2 all twelve stand there", 12, () -> all.standingOn(7));
        RopeChoices ends = Bridges.of(0, 40);
        ends.setStrength(1);
        dueUnchanged("2 no room on the first plank", STATE, ends, () -> ends.send(1, 0, 3, 2));
        dueUnchanged("2 no room on the last plank", STATE, ends, () -> ends.send(1, 40, 3, 2));
        due("2 room beside the first plank", 2, () -> ends.send(1, 1, 3, 2));
        due("2 room beside the last plank", 3, () -> ends.send(1, 39, 3, 2));
    }

    private void sendCountsWhoStandsThere() {
        RopeChoices x = Bridges.of(10, 20);
        x.setStrength(1);
        x.lead(0, 11);
        due("2 who was led away leaves room", 2, () -> x.send(1, 10, 3, 2));
        dueUnchanged("2 who was led there takes it", STATE, x, () -> x.send(1, 11, 3, 2));
        x.persuade(1, 30);
        due("2 who only wishes for a plank takes no room", 3, () -> x.send(1, 30, 3, 2));
        dueUnchanged("2 who wishes for another one stays", STATE, x, () -> x.send(1, 20, 3, 2));
        RopeChoices crowd = Bridges.of(9, 9, 9);
        crowd.setStrength(2);
        dueUnchanged("2 more stand there than it bears", STATE, crowd,
            () -> crowd.send(1, 9, 3, 2));
        crowd.recall(1);
        dueUnchanged("2 just as many as it bears", STATE, crowd, () -> crowd.send(1, 9, 3, 2));
        crowd.recall(1);
        due("2 one less than it bears", 1, () -> crowd.send(1, 9, 3, 2));
    }

    private void sendThrowsTheFirstNamed() {
        dueRefusedByFull("village before reach", INDEX, 5, 5, 21, 1);
        dueRefusedByFull("village before pace", INDEX, -1, 5, 0, 0);
        dueRefusedByFull("village before the full bridge", INDEX, 5, 30, 0, 1);
        dueRefusedByFull("wish before reach", INDEX, 0, 41, -1, 1);
        dueRefusedByFull("wish before pace", INDEX, 0, -1, 0, 6);
        dueRefusedByFull("wish before the full bridge", INDEX, 0, 41, 0, 1);
        dueRefusedByFull("reach before the full bridge", ARGUMENT, 0, 30, 21, 1);
        dueRefusedByFull("pace before the full bridge", ARGUMENT, 0, 30, 0, 6);
        dueRefusedByFull("the full bridge, and no room", STATE, 0, 5, 0, 1);
        RopeChoices x = Bridges.of(5, 6);
        x.setStrength(1);
        dueUnchanged("2 village before no room", INDEX, x, () -> x.send(5, 5, 0, 1));
        dueUnchanged("2 reach before no room", ARGUMENT, x, () -> x.send(0, 5, -1, 1));
        dueUnchanged("2 pace before no room", ARGUMENT, x, () -> x.send(0, 5, 0, 0));
        dueUnchanged("2 no room", STATE, x, () -> x.send(0, 5, 0, 1));
    }

    /** Of twelve on the planks 5 to 16, which bear one each. */
    private void dueRefusedByFull(String what, Object due, int village, int wish, int reach,
            int pace) {
        RopeChoices x = Bridges.full();
        x.setStrength(1);
        dueUnchanged("2 " + what, due, x, () -> x.send(village, wish, reach, pace));
    }

    // ---- recall

    private void recallNoSuchDelegate() {
        dueNoSuchDelegate("3 recall", RopeChoices::recall);
        RopeChoices x = Bridges.of(3, 30, 12);
        due("3 the last one", 12, () -> x.recall(2));
        due("3 the first one", 3, () -> x.recall(0));
        due("3 the only one", 30, () -> x.recall(0));
        dueUnchanged("3 none any more", INDEX, x, () -> x.recall(0));
    }

    private void recallGreaterNumbersAreOneLess() {
        for (int gone = 0; gone < 12; gone++) {
            RopeChoices x = new RopeChoices();
            for (int i = 0; i < 12; i++) {
                x.send(i % 5, i, i + 1, i % 4 + 1);
                x.lead(i, 2 * i + 1);
            }
            int number = gone;
            due("3 stood on", 2 * number + 1, () -> x.recall(number));
            due("3 there are eleven", 11, x::delegates);
            for (int i = 0; i < 11; i++) {
                dueAsSent("3 without " + gone, x, i, i < gone ? i : i + 1);
            }
        }
    }

    private void dueAsSent(String what, RopeChoices x, int number, int before) {
        String text = what + ", " + before + " is " + number;
        due(text + ": village", before % 5, () -> x.villageOf(number));
        due(text + ": wish", before, () -> x.wishOf(number));
        due(text + ": reach", before + 1, () -> x.reachOf(number));
        due(text + ": pace", before % 4 + 1, () -> x.paceOf(number));
        due(text + ": plank", 2 * before + 1, () -> x.plankOf(number));
    }

    // ---- persuade

    private void persuadeNoSuchDelegateOrPlank() {
        dueNoSuchDelegate("4 persuade", (x, delegate) -> x.persuade(delegate, 20));
        dueNoSuchDelegate("4 persuade to no plank", (x, delegate) -> x.persuade(delegate, 41));
        RopeChoices x = Bridges.of(3, 30, 12);
        dueNoSuchPlank("4 persuade the first one", x, wish -> x.persuade(0, wish));
        dueNoSuchPlank("4 persuade the last one", x, wish -> x.persuade(2, wish));
    }

    private void persuadeToTheEndsAndToTheSame() {
        RopeChoices x = Bridges.of(3, 30, 12);
        due("4 to the first plank", 3, () -> x.persuade(0, 0));
        due("4 to the last plank", 0, () -> x.persuade(0, 40));
        dueUnchanged("4 or the same", 40, x, () -> x.persuade(0, 40));
        due("4 the last one", 12, () -> x.persuade(2, 13));
        due("4 the new wish", 40, () -> x.wishOf(0));
        due("4 not another's", 30, () -> x.wishOf(1));
        due("4 the new wish of the last one", 13, () -> x.wishOf(2));
        duePlanks("4 this one stands where this one stood", x, 3, 30, 12);
        x.setStrength(1);
        due("4 to a plank without room", 40, () -> x.persuade(0, 30));
        RopeChoices fixed = new RopeChoices();
        fixed.send(0, 10, 0, 1);
        due("4 farther than the reach", 10, () -> fixed.persuade(0, 11));
        duePlanks("4 not willing to stand there, but stands there", fixed, 10);
    }

    // ---- lead

    private void leadNoSuchDelegateOrPlank() {
        dueNoSuchDelegate("5 lead", (x, delegate) -> x.lead(delegate, 12));
        RopeChoices x = Bridges.of(3, 37, 12);
        dueNoSuchPlank("5 lead the first one", x, plank -> x.lead(0, plank));
        dueNoSuchPlank("5 lead the second one", x, plank -> x.lead(1, plank));
        due("5 to the first plank", 3, () -> x.lead(0, 0));
        due("5 to the last plank", 37, () -> x.lead(1, 40));
        duePlanks("5 they were led there", x, 0, 40, 12);
    }

    private void leadAsFarAsWilling() {
        for (int reach = 0; reach < 20; reach++) {
            RopeChoices x = new RopeChoices();
            x.send(0, 20, reach, 1);
            int least = 20 - reach;
            int most = 20 + reach;
            due("5 as far down as willing", 20, () -> x.lead(0, least));
            due("5 as far up as willing, however far", least, () -> x.lead(0, most));
            dueUnchanged("5 one farther up", STATE, x, () -> x.lead(0, most + 1));
            dueUnchanged("5 one farther down", STATE, x, () -> x.lead(0, least - 1));
        }
        RopeChoices far = new RopeChoices();
        far.send(0, 20, 20, 1);
        due("5 the greatest reach, down", 20, () -> far.lead(0, 0));
        due("5 the greatest reach, up", 0, () -> far.lead(0, 40));
        far.persuade(0, 19);
        dueUnchanged("5 not willing where this one stands", STATE, far, () -> far.lead(0, 40));
        due("5 from there, as far as willing", 40, () -> far.lead(0, 39));
    }

    private void leadNeedsRoomOnAnotherPlank() {
        RopeChoices x = Bridges.of(10, 20, 20);
        x.setStrength(3);
        due("5 room for one more", 10, () -> x.lead(0, 20));
        x.lead(0, 10);
        x.setStrength(2);
        dueUnchanged("5 no room", STATE, x, () -> x.lead(0, 20));
        dueUnchanged("5 to that where this one stands, without room", 20, x, () -> x.lead(1, 20));
        x.setStrength(1);
        dueUnchanged("5 more than it bears", STATE, x, () -> x.lead(0, 20));
        dueUnchanged("5 to that where this one stands, too many", 20, x, () -> x.lead(2, 20));
        due("5 one goes away", 20, () -> x.lead(1, 21));
        dueUnchanged("5 still no room", STATE, x, () -> x.lead(0, 20));
        due("5 the other one goes away", 20, () -> x.lead(2, 22));
        due("5 room now", 10, () -> x.lead(0, 20));
        duePlanks("5 they were led", x, 20, 21, 22);
        x.persuade(0, 21);
        dueUnchanged("5 to the wished one, without room", STATE, x, () -> x.lead(0, 21));
    }

    private void leadThrowsTheFirstNamed() {
        RopeChoices x = new RopeChoices();
        x.send(0, 20, 5, 1);
        x.send(1, 30, 5, 1);
        x.send(1, 22, 5, 1);
        x.setStrength(1);
        dueUnchanged("5 no such one, and not willing", INDEX, x, () -> x.lead(3, 40));
        dueUnchanged("5 no such one, and no such plank", INDEX, x, () -> x.lead(-1, 41));
        dueUnchanged("5 no such plank, and not willing", INDEX, x, () -> x.lead(0, 41));
        dueUnchanged("5 not willing, and no room", STATE, x, () -> x.lead(0, 30));
        dueUnchanged("5 willing, and no room", STATE, x, () -> x.lead(0, 22));
    }

    // ---- setStrength

    private void setStrengthIs1To12() {
        RopeChoices x = Bridges.of(3, 30, 12);
        x.setStrength(7);
        for (int strength : new int[] {0, 13, -1, FAR_BELOW, FAR_ABOVE}) {
            dueUnchanged("6 strength " + strength, ARGUMENT, x, () -> x.setStrength(strength));
        }
        due("6 the least", 7, () -> x.setStrength(1));
        due("6 it is the least", 1, x::strength);
        due("6 the greatest", 1, () -> x.setStrength(12));
        due("6 it is the greatest", 12, x::strength);
        dueUnchanged("6 the same", 12, x, () -> x.setStrength(12));
    }

    private void setStrengthLetsThemStay() {
        RopeChoices x = Bridges.of(9, 9, 9);
        x.setStrength(1);
        duePlanks("6 those who stand on one stay there", x, 9, 9, 9);
        due("6 also if they are more", 3, () -> x.standingOn(9));
        due("6 nor do they go in a round", 0, () -> x.passRounds(1));
        duePlanks("6 they stay there", x, 9, 9, 9);
    }

    // ---- passRounds

    private void passRoundsIs1To50() {
        RopeChoices x = new RopeChoices();
        x.persuade(x.send(0, 0, 0, 1), 40);
        x.send(1, 20, 0, 1);
        dueBadRounds("7 passRounds", x, x::passRounds);
        due("7 one round", 1, () -> x.passRounds(1));
        duePlanks("7 behind one round", x, 1, 20);
        due("7 is one round", 1, x::rounds);
        due("7 fifty rounds", 39, () -> x.passRounds(50));
        duePlanks("7 behind fifty more", x, 40, 20);
        due("7 are fifty more", 51, x::rounds);
        RopeChoices none = new RopeChoices();
        dueBadRounds("7 passRounds without delegates", none, none::passRounds);
    }

    private void passRoundsWithoutDelegates() {
        RopeChoices x = new RopeChoices();
        due("7 nobody goes", 0, () -> x.passRounds(1));
        due("7 the number of rounds is 1 greater", 1, x::rounds);
        due("7 nobody goes in fifty", 0, () -> x.passRounds(50));
        due("7 and fifty greater", 51, x::rounds);
        x.send(0, 10, 3, 1);
        x.recall(0);
        due("7 nobody any more", 0, () -> x.passRounds(2));
        due("7 two rounds more", 53, x::rounds);
    }

    private void passRoundsCountsWhoWent() {
        RopeChoices still = Bridges.of(12, 12, 12);
        due("7 nobody has to go", 0, () -> still.passRounds(50));
        RopeChoices x = Bridges.of(0, 20, 40);
        due("7 how often, not how many planks", 8, () -> x.passRounds(4));
        due("7 nobody any more", 0, () -> x.passRounds(50));
        RopeChoices blocked = Bridges.of(10, 11);
        blocked.setStrength(1);
        due("7 who stays without room did not go", 0, () -> blocked.passRounds(50));
        RopeChoices all = Bridges.of(0, 1, 2, 3, 4, 5, 6, 7, 8, 9, 10, 11);
        due("7 all but the one on the compromise", 11, () -> all.passRounds(1));
    }

    // ---- a round

    private void roundStepsEndAtTheGoal() {
        for (int pace = 1; pace <= 5; pace++) {
            for (int distance = 0; distance <= 6; distance++) {
                dueSteps(pace, distance);
            }
        }
    }

    private void dueSteps(int pace, int distance) {
        int step = Math.min(pace, distance);
        String text = ", pace " + pace + ", distance " + distance;
        due("7 down to the compromise" + text, 20 + distance - step,
            () -> afterOneRound(20, 20 + distance, 20, pace));
        due("7 up to the compromise" + text, 20 - distance + step,
            () -> afterOneRound(20, 20 - distance, 20, pace));
        due("7 up as far as willing" + text, 20 + step,
            () -> afterOneRound(40, 20, distance, pace));
        due("7 down as far as willing" + text, 20 - step,
            () -> afterOneRound(0, 20, distance, pace));
        due("7 back up towards the wish" + text, 20 + step,
            () -> backAfterOneRound(20, 20 + distance, pace));
        due("7 back down towards the wish" + text, 20 - step,
            () -> backAfterOneRound(20, 20 - distance, pace));
    }

    /** Where one goes from the wished plank, if two stand on the compromise. */
    private static int afterOneRound(int compromise, int wish, int reach, int pace) {
        RopeChoices x = new RopeChoices();
        x.send(0, compromise, 0, 1);
        x.send(1, compromise, 0, 1);
        x.send(2, wish, reach, pace);
        x.passRounds(1);
        return x.plankOf(2);
    }

    /** Where one without a reach goes, who alone makes the compromise. */
    private static int backAfterOneRound(int plank, int wish, int pace) {
        RopeChoices x = new RopeChoices();
        x.send(0, plank, 0, pace);
        x.persuade(0, wish);
        x.passRounds(1);
        return x.plankOf(0);
    }

    private void roundNeedsRoomWhereTheStepLeads() {
        RopeChoices bears = stepOnto(2);
        due("7 room for one more", 1, () -> bears.passRounds(1));
        duePlanks("7 goes there", bears, 20, 20);
        RopeChoices full = stepOnto(1);
        due("7 no room", 0, () -> full.passRounds(1));
        duePlanks("7 stays, and goes no half a step", full, 20, 24);

        RopeChoices over = new RopeChoices();
        over.send(0, 20, 0, 1);
        over.send(1, 20, 0, 1);
        over.send(2, 20, 0, 1);
        over.send(3, 25, 20, 5);
        over.setStrength(2);
        due("7 more stand there than it bears", 0, () -> over.passRounds(1));
        over.setStrength(3);
        due("7 just as many as it bears", 0, () -> over.passRounds(1));
        over.setStrength(4);
        due("7 one less than it bears", 1, () -> over.passRounds(1));
        duePlanks("7 one less than it bears", over, 20, 20, 20, 20);

        RopeChoices jump = new RopeChoices();
        jump.send(0, 20, 0, 1);
        jump.send(1, 22, 0, 1);
        jump.send(2, 23, 20, 2);
        jump.send(3, 19, 0, 1);
        jump.setStrength(1);
        due("7 over a plank without room", 1, () -> jump.passRounds(1));
        duePlanks("7 over a plank without room", jump, 20, 22, 21, 19);
        due("7 but not onto one", 0, () -> jump.passRounds(1));
    }

    /** One on the compromise 20, and one who would step onto it from 24. */
    private static RopeChoices stepOnto(int strength) {
        RopeChoices x = new RopeChoices();
        x.send(0, 20, 0, 1);
        x.send(1, 24, 20, 5);
        x.setStrength(strength);
        return x;
    }

    private void roundGoesByNumbers() {
        RopeChoices first = Bridges.ofRows(1, rows(10, 9));
        due("7 the smaller number makes room", 2, () -> first.passRounds(1));
        duePlanks("7 the smaller number makes room", first, 11, 10, 20, 21, 22);
        RopeChoices last = Bridges.ofRows(1, rows(9, 10));
        due("7 the greater number makes room too late", 1, () -> last.passRounds(1));
        duePlanks("7 the greater number makes room too late", last, 9, 11, 20, 21, 22);
        RopeChoices race = Bridges.ofRows(1, rows(18, 18));
        due("7 both to the same plank", 1, () -> race.passRounds(1));
        duePlanks("7 the smaller number gets the room", race, 19, 18, 20, 21, 22);
    }

    /** Two who go up to the compromise 20, one plank a round, and three who stay. */
    private static int[][] rows(int first, int second) {
        return new int[][] {
            {0, first, 20, 1, first},
            {1, second, 20, 1, second},
            {2, 20, 0, 1, 20},
            {3, 21, 0, 1, 21},
            {4, 22, 0, 1, 22},
        };
    }

    private void roundLooksAtTheCompromiseOnce() {
        RopeChoices x = Bridges.ofRows(12, new int[][] {
            {0, 10, 0, 5, 40},
            {1, 12, 20, 5, 12},
            {2, 30, 20, 5, 30},
        });
        due("7 it was 12, also for the last one", 2, () -> x.passRounds(1));
        duePlanks("7 it was 12, also for the last one", x, 15, 12, 25);
        due("7 it is 15 in the next round", 3, () -> x.passRounds(1));
        duePlanks("7 it is 15 in the next round", x, 20, 15, 20);
    }
}

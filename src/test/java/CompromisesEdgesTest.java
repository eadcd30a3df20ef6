import java.util.Arrays;

/** The boundary cases of the promises 19 to 25: compromises. */
public final class CompromisesEdgesTest extends Edges {
    // Planks, put in a row: 1, 4, 7, 10, 13, 16, 19, 22, 25, 28, 31, 34.
    private static final int[] MIXED = {19, 4, 34, 1, 13, 28, 7, 31, 10, 25, 22, 16};

    public static void main(String[] args) {
        new CompromisesEdgesTest().ask();
    }

    @Override
    void askAll() {
        compromiseOfNone();
        compromiseOfOneToTwelve();
        compromiseAtTheEnds();
        compromiseOfVillageRefused();
        compromiseOfVillageOfOneToTwelve();
        compromiseOfTheFirstAndTheLastVillage();
        compromiseWithoutRefused();
        compromiseWithoutOneOfTwelve();
        compromiseWithoutOneOfTwo();
        decisiveOneOfNone();
        decisiveOneIsTheSmallestNumber();
        discontentOfRefused();
        discontentOfAtTheEnds();
        allDiscontentFromNoneToTheMost();
        bestPlankOfNone();
        bestPlankIsTheSmallestNumber();
        bestPlankAtTheEnds();
    }

    /** The first so many of the mixed planks, put in a row. */
    private static int[] sorted(int many) {
        int[] row = Arrays.copyOf(MIXED, many);
        Arrays.sort(row);
        return row;
    }

    private static RopeChoices mixed(int many) {
        return Bridges.of(Arrays.copyOf(MIXED, many));
    }

    // ---- compromise

    private void compromiseOfNone() {
        RopeChoices x = new RopeChoices();
        dueUnchanged("19 none", STATE, x, x::compromise);
        x.send(1, 7, 3, 2);
        dueUnchanged("19 one", 7, x, x::compromise);
        x.recall(0);
        dueUnchanged("19 none again", STATE, x, x::compromise);
    }

    private void compromiseOfOneToTwelve() {
        for (int many = 1; many <= 12; many++) {
            RopeChoices x = mixed(many);
            int due = sorted(many)[(many - 1) / 2];
            dueUnchanged("19 the place (n - 1) / 2 of " + many, due, x, x::compromise);
        }
        due("19 of two, counted from 0 and cut", 4, () -> Bridges.of(9, 4).compromise());
        due("19 of four, counted from 0 and cut", 6, () -> Bridges.of(9, 4, 8, 6).compromise());
        due("19 of twelve, counted from 0 and cut", 10, () -> Bridges.full().compromise());
        due("19 a plank counts for each who stands there", 9, () ->
            Bridges.of(4, 9, 9, 9, 20, 6, 9).compromise());
    }

    private void compromiseAtTheEnds() {
        due("19 the first plank", 0, () -> Bridges.of(0).compromise());
        due("19 the last plank", 40, () -> Bridges.of(40).compromise());
        due("19 of both ends", 0, () -> Bridges.of(40, 0).compromise());
        due("19 two on the last plank", 40, () -> Bridges.of(40, 0, 40).compromise());
    }

    // ---- compromiseOf

    private void compromiseOfVillageRefused() {
        RopeChoices x = Bridges.of(3, 30, 12);
        RopeChoices none = new RopeChoices();
        dueNoSuchVillage("20 compromiseOf", x, x::compromiseOf);
        dueNoSuchVillage("20 compromiseOf without delegates", none, none::compromiseOf);
        dueUnchanged("20 it has none", STATE, x, () -> x.compromiseOf(3));
        dueUnchanged("20 the last village has none", STATE, x, () -> x.compromiseOf(4));
        dueUnchanged("20 there are no delegates", STATE, none, () -> none.compromiseOf(0));
        dueUnchanged("20 it has one", 12, x, () -> x.compromiseOf(2));
        x.recall(2);
        dueUnchanged("20 it has none any more", STATE, x, () -> x.compromiseOf(2));
    }

    private void compromiseOfVillageOfOneToTwelve() {
        for (int its = 1; its <= 12; its++) {
            RopeChoices x = new RopeChoices();
            for (int i = 0; i < 12; i++) {
                x.send(i < its ? 2 : 3, MIXED[i], 3, 2);
            }
            int due = sorted(its)[(its - 1) / 2];
            dueUnchanged("20 the place (n - 1) / 2 of " + its, due, x, () -> x.compromiseOf(2));
        }
    }

    private void compromiseOfTheFirstAndTheLastVillage() {
        RopeChoices x = new RopeChoices();
        x.send(4, 40, 0, 1);
        x.send(0, 0, 20, 1);
        x.send(4, 31, 20, 1);
        due("20 the first village", 0, () -> x.compromiseOf(0));
        due("20 the last village, the lower of two", 31, () -> x.compromiseOf(4));
        x.lead(1, 9);
        x.persuade(2, 0);
        due("20 where this one stands", 9, () -> x.compromiseOf(0));
        due("20 not what they wish", 31, () -> x.compromiseOf(4));
    }

    // ---- compromiseWithout

    private void compromiseWithoutRefused() {
        dueNoSuchDelegate("21 compromiseWithout", RopeChoices::compromiseWithout);
        RopeChoices one = Bridges.of(7);
        dueUnchanged("21 there are no others", STATE, one, () -> one.compromiseWithout(0));
        dueUnchanged("21 no such one before no others", INDEX, one,
            () -> one.compromiseWithout(1));
        one.send(1, 9, 3, 2);
        dueUnchanged("21 there is another one", 9, one, () -> one.compromiseWithout(0));
        one.recall(1);
        dueUnchanged("21 there are no others any more", STATE, one,
            () -> one.compromiseWithout(0));
    }

    private void compromiseWithoutOneOfTwelve() {
        for (int many = 2; many <= 12; many++) {
            for (int i = 0; i < many; i++) {
                RopeChoices x = mixed(many);
                int delegate = i;
                int due = withoutPlank(sorted(many), MIXED[i])[(many - 2) / 2];
                dueUnchanged("21 of " + many + ", without " + i, due, x,
                    () -> x.compromiseWithout(delegate));
            }
        }
    }

    private static int[] withoutPlank(int[] row, int plank) {
        int[] others = new int[row.length - 1];
        int at = 0;
        for (int p : row) {
            if (p != plank) {
                others[at++] = p;
            }
        }
        return others;
    }

    private void compromiseWithoutOneOfTwo() {
        RopeChoices x = Bridges.of(0, 40);
        due("21 the last plank", 40, () -> x.compromiseWithout(0));
        due("21 the first plank", 0, () -> x.compromiseWithout(1));
        RopeChoices same = Bridges.of(8, 8);
        due("21 only this one goes, not who stands there too", 8,
            () -> same.compromiseWithout(1));
        x.lead(0, 11);
        x.persuade(0, 0);
        due("21 where the other one stands", 11, () -> x.compromiseWithout(1));
    }

    // ---- decisiveOne

    private void decisiveOneOfNone() {
        RopeChoices x = new RopeChoices();
        dueUnchanged("22 there are no delegates", STATE, x, x::decisiveOne);
        x.send(1, 7, 3, 2);
        dueUnchanged("22 there is one", 0, x, x::decisiveOne);
        x.recall(0);
        dueUnchanged("22 there are no delegates again", STATE, x, x::decisiveOne);
    }

    private void decisiveOneIsTheSmallestNumber() {
        for (int decisive = 0; decisive < 11; decisive++) {
            int[] planks = new int[11];
            for (int i = 0; i < 11; i++) {
                planks[i] = i == decisive ? 20 : (i < decisive ? i : i - 1) % 2 == 0 ? 30 : 10;
            }
            int due = decisive;
            RopeChoices x = Bridges.of(planks);
            dueUnchanged("22 the number " + due, due, x, x::decisiveOne);
        }
        due("22 of all on one plank", 0, () ->
            Bridges.of(7, 7, 7, 7, 7, 7, 7, 7, 7, 7, 7, 7).decisiveOne());
        due("22 of the last two", 10, () ->
            Bridges.of(1, 2, 3, 4, 5, 30, 30, 30, 30, 30, 6, 6).decisiveOne());
        due("22 the last of twelve", 11, () ->
            Bridges.of(1, 2, 3, 4, 5, 30, 30, 30, 30, 30, 30, 6).decisiveOne());
        RopeChoices x = Bridges.of(5, 9, 20);
        x.persuade(0, 9);
        due("22 who stands there, not who wishes for it", 1, x::decisiveOne);
        x.persuade(1, 30);
        due("22 nor who wishes for the median of the wishes", 1, x::decisiveOne);
    }

    // ---- discontent

    private void discontentOfRefused() {
        dueNoSuchDelegate("23 discontentOf", RopeChoices::discontentOf);
    }

    private void discontentOfAtTheEnds() {
        RopeChoices x = Bridges.of(40, 0, 20, 0, 1);
        dueUnchanged("23 above", 39, x, () -> x.discontentOf(0));
        dueUnchanged("23 below", 1, x, () -> x.discontentOf(1));
        dueUnchanged("23 none", 0, x, () -> x.discontentOf(4));
        RopeChoices most = Bridges.of(0, 40);
        due("23 the most", 40, () -> most.discontentOf(1));
        most.persuade(0, 40);
        due("23 the most of one who stands there", 40, () -> most.discontentOf(0));
        due("23 of one alone", 0, () -> Bridges.of(17).discontentOf(0));
        due("23 of the twelfth", 6, () -> Bridges.full().discontentOf(11));
    }

    private void allDiscontentFromNoneToTheMost() {
        RopeChoices x = new RopeChoices();
        dueUnchanged("24 without any", 0, x, x::allDiscontent);
        x.send(1, 17, 20, 5);
        dueUnchanged("24 of one who is content", 0, x, x::allDiscontent);
        x.persuade(0, 18);
        dueUnchanged("24 of one", 1, x, x::allDiscontent);
        x.recall(0);
        dueUnchanged("24 without any again", 0, x, x::allDiscontent);
        due("24 of twelve", 36, () -> Bridges.full().allDiscontent());
        RopeChoices most = Bridges.of(0, 0, 0, 0, 0, 0, 0, 0, 0, 0, 0, 0);
        for (int i = 0; i < 12; i++) {
            most.persuade(i, 40);
        }
        due("24 the most", 480, most::allDiscontent);
    }

    // ---- bestPlank

    private void bestPlankOfNone() {
        RopeChoices x = new RopeChoices();
        dueUnchanged("25 there are no delegates", STATE, x, x::bestPlank);
        x.send(1, 7, 3, 2);
        dueUnchanged("25 there is one", 7, x, x::bestPlank);
        x.recall(0);
        dueUnchanged("25 there are no delegates again", STATE, x, x::bestPlank);
    }

    private void bestPlankIsTheSmallestNumber() {
        for (int many = 1; many <= 12; many++) {
            RopeChoices x = mixed(many);
            int due = sorted(many)[(many - 1) / 2];
            dueUnchanged("25 of the wishes of " + many, due, x, x::bestPlank);
        }
        due("25 of all planks from end to end", 0, () -> Bridges.of(40, 0).bestPlank());
        due("25 of two beside each other", 20, () -> Bridges.of(21, 20).bestPlank());
    }

    private void bestPlankAtTheEnds() {
        RopeChoices x = Bridges.of(20, 20, 20);
        x.persuade(0, 40);
        x.persuade(2, 40);
        due("25 the last plank", 40, x::bestPlank);
        x.persuade(0, 39);
        x.persuade(2, 39);
        due("25 the last but one", 39, x::bestPlank);
        x.persuade(0, 1);
        x.persuade(2, 1);
        due("25 the second plank", 1, x::bestPlank);
        x.persuade(0, 0);
        x.persuade(2, 0);
        due("25 the first plank", 0, x::bestPlank);
        x.setStrength(1);
        due("25 whatever it bears", 0, x::bestPlank);
    }
}

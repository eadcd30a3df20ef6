/** Bridges to ask, and all that can be told of one. */
final class Bridges {
    private Bridges() {
    }

    /** Delegates with reach 20 and pace 5, of the villages 0, 1, .. 4, 0, .. */
    static RopeChoices of(int... wishes) {
        RopeChoices x = new RopeChoices();
        for (int i = 0; i < wishes.length; i++) {
            x.send(i % 5, wishes[i], 20, 5);
        }
        return x;
    }

    /** Twelve delegates, the most that there can be, on the planks 5 to 16. */
    static RopeChoices full() {
        return of(5, 6, 7, 8, 9, 10, 11, 12, 13, 14, 15, 16);
    }

    /** Rows of village, plank where this one stands, reach, pace, and the wish from now on. */
    static RopeChoices ofRows(int strength, int[]... rows) {
        RopeChoices x = new RopeChoices();
        for (int[] row : rows) {
            x.persuade(x.send(row[0], row[1], row[2], row[3]), row[4]);
        }
        x.setStrength(strength);
        return x;
    }

    /** All that a bridge holds, number by number. */
    static String everythingOf(RopeChoices x) {
        StringBuilder text = new StringBuilder();
        text.append(x.rounds()).append(" rounds, strength ").append(x.strength());
        int count = x.delegates();
        for (int i = 0; i < count; i++) {
            text.append("; ").append(x.villageOf(i)).append(' ').append(x.wishOf(i))
                .append(' ').append(x.reachOf(i)).append(' ').append(x.paceOf(i))
                .append(' ').append(x.plankOf(i));
        }
        return text.toString();
    }
}

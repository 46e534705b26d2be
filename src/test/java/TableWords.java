/** The 51 words of a table, put together as the document says it. */
final class TableWords {
    private final int[] words = new int[51];

    TableWords(int number, int... extents) {
        words[0] = number;
        for (int d = 0; d < extents.length; d++) {
            words[1 + d] = extents[d];
        }
        words[50] = number;
    }

    /** A volume with its legs in their order, those of a twinned one two by two; -1 is gone. */
    TableWords volume(int v, int kind, int columns, int... spots) {
        int legs = kind == 2 ? 2 : 1;
        words[5 + v] = 1 + kind + 4 * columns + 32 * (spots.length / legs);
        for (int i = 0; i < spots.length; i++) {
            words[9 + 10 * v + 2 * (i / legs) + i % legs] = 1 + spots[i];
        }
        return this;
    }

    int[] sealed() {
        words[49] = 0;
        for (int i = 0; i < 49; i++) {
            words[49] += words[i] * (i + 1);
        }
        return words;
    }

    /** The words as Shelves.words() has those of a slot. */
    String text() {
        StringBuilder text = new StringBuilder();
        for (int word : sealed()) {
            text.append(word).append(' ');
        }
        return text.toString();
    }
}

/** Shelves to begin a test with, and what tests do to them again and again. */
final class Shelves {
    private Shelves() {
    }

    /** A shelf whose disks 0, 1, .. are listed with so many extents; 0 leaves one out. */
    static ExtentShelf with(int... extents) {
        ExtentShelf x = new ExtentShelf();
        for (int d = 0; d < extents.length; d++) {
            if (extents[d] > 0) {
                x.add(d, extents[d]);
            }
        }
        return x;
    }

    static int takeOut(ExtentShelf x, int d) {
        x.off();
        x.plug(d, false);
        return x.start();
    }

    static int putIn(ExtentShelf x, int d) {
        x.off();
        x.plug(d, true);
        return x.start();
    }

    static int restart(ExtentShelf x) {
        x.off();
        return x.start();
    }

    /**
     * Everything that can be seen of a shelf; the same text means that nothing has changed. It looks at every word,
     * which goes beyond 512 calls: what is answered then the document leaves free, and the program answers as before.
     */
    static String all(ExtentShelf x) {
        StringBuilder text = new StringBuilder();
        text.append(x.number()).append(' ').append(x.moving()).append(' ');
        for (int d = 0; d < 4; d++) {
            int disk = d;
            text.append(Check.outcome(() -> String.valueOf(x.free(disk)))).append(' ');
            text.append(words(x, d, 0)).append(words(x, d, 1)).append(words(x, d, 2));
        }
        for (int v = 0; v < 4; v++) {
            for (int what = 0; what < 4; what++) {
                int volume = v;
                int which = what;
                text.append(Check.outcome(() -> String.valueOf(x.volume(volume, which)))).append(' ');
            }
            text.append(legs(x, v));
        }
        return text.toString();
    }

    /**
     * All that can be seen, now and in what a shelf answers then to a run of calls: that tells also how far a copy is,
     * how many words a cut leaves and which disks are present. The same text means that the shelves are the same.
     */
    static String story(ExtentShelf x) {
        StringBuilder text = new StringBuilder(all(x));
        for (int i = 0; i < 3; i++) {
            text.append(Check.outcome(() -> String.valueOf(x.step()))).append(' ').append(all(x));
        }
        for (int i = 1; i <= 70; i++) {
            int value = i;
            text.append(Check.outcome(() -> String.valueOf(x.write(0, 0, value)))).append(' ');
        }
        text.append(all(x)).append(Check.outcome(x::off)).append(' ');
        for (int d = 0; d < 4; d++) {
            int disk = d;
            text.append(Check.outcome(() -> String.valueOf(x.plug(disk, true)))).append(' ');
        }
        return text.append(Check.outcome(() -> String.valueOf(x.start()))).append(' ').append(all(x)).toString();
    }

    /** Where the legs of a volume are, element by element. */
    static String legs(ExtentShelf x, int v) {
        StringBuilder text = new StringBuilder();
        for (int e = 0; e < 5; e++) {
            for (int l = 0; l < 2; l++) {
                int element = e;
                int leg = l;
                text.append(l == 0 ? " " : "/");
                text.append(Check.outcome(() -> String.valueOf(x.where(v, element, leg))));
            }
        }
        return text.toString().trim();
    }

    /** All words of slot 0 or 1, or of the extents (2), of a disk. */
    static String words(ExtentShelf x, int d, int s) {
        StringBuilder text = new StringBuilder();
        for (int i = 0; i < (s == 2 ? 32 : 51); i++) {
            text.append(x.look(d, s, i)).append(' ');
        }
        return text.toString();
    }
}

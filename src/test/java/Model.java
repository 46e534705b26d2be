import java.util.ArrayList;
import java.util.Arrays;
import java.util.List;
import java.util.NoSuchElementException;

/**
 * The document once more, as objects and lists and without regard to cost: RandomRunsTest holds the program
 * to it. It shares no code with the program.
 */
final class Model {
    record Extent(int disk, int place) {
    }

    static final class Volume {
        int kind;
        int columns;
        List<Extent[]> elements = new ArrayList<>();

        Volume copy() {
            Volume c = new Volume();
            c.kind = kind;
            c.columns = columns;
            for (Extent[] legs : elements) {
                c.elements.add(legs.clone());
            }
            return c;
        }

        int legsEach() {
            return kind == 2 ? 2 : 1;
        }
    }

    static final class Tab {
        int number;
        int[] extents = new int[4];
        Volume[] volumes = new Volume[4];

        Tab copy() {
            Tab c = new Tab();
            c.number = number;
            c.extents = extents.clone();
            for (int v = 0; v < 4; v++) {
                c.volumes[v] = volumes[v] == null ? null : volumes[v].copy();
            }
            return c;
        }

        int[] words() {
            int[] w = new int[51];
            w[0] = number;
            System.arraycopy(extents, 0, w, 1, 4);
            for (int v = 0; v < 4; v++) {
                if (volumes[v] == null) {
                    continue;
                }
                w[5 + v] = 1 + volumes[v].kind + 4 * volumes[v].columns + 32 * volumes[v].elements.size();
                for (int e = 0; e < volumes[v].elements.size(); e++) {
                    for (int l = 0; l < 2; l++) {
                        Extent at = volumes[v].elements.get(e)[l];
                        w[9 + 10 * v + 2 * e + l] = at == null ? 0 : 1 + 8 * at.disk + at.place;
                    }
                }
            }
            for (int i = 0; i < 49; i++) {
                w[49] += w[i] * (i + 1);
            }
            w[50] = number;
            return w;
        }

        static Tab of(int[] w) {
            Tab t = new Tab();
            t.number = w[0];
            t.extents = Arrays.copyOfRange(w, 1, 5);
            for (int v = 0; v < 4; v++) {
                if (w[5 + v] == 0) {
                    continue;
                }
                Volume made = new Volume();
                made.kind = w[5 + v] % 4 - 1;
                made.columns = w[5 + v] / 4 % 8;
                for (int e = 0; e < Math.min(5, w[5 + v] / 32); e++) {
                    made.elements.add(new Extent[] {extent(w[9 + 10 * v + 2 * e]), extent(w[10 + 10 * v + 2 * e])});
                }
                t.volumes[v] = made;
            }
            return t;
        }

        private static Extent extent(int word) {
            return word == 0 ? null : new Extent((word - 1) / 8, (word - 1) % 8);
        }
    }

    private final int[][][] slots = new int[4][2][51];
    private final int[][] extents = new int[4][32];
    private final boolean[] present = {true, true, true, true};
    private boolean power = true;
    private int cut = -1;
    private Tab tab = new Tab();
    private int moved = -1;
    private int[] copying = null;
    private Extent target = null;
    private int copied = 0;

    void add(int d, int n) {
        power();
        if (d < 0 || d > 3 || n < 2 || n > 8) {
            throw new IllegalArgumentException();
        }
        support(tab.extents[d] == 0 && present[d] && !listedAbsent());
        Arrays.fill(extents[d], 0);
        Tab t = tab.copy();
        t.extents[d] = n;
        change(t);
    }

    void remove(int d) {
        power();
        disk(d);
        int listed = 0;
        for (int n : tab.extents) {
            listed += n > 0 ? 1 : 0;
        }
        support(tab.extents[d] > 0 && legsOn(d) == 0 && (target == null || target.disk != d));
        support(listed > 1 && !listedAbsent());
        Tab t = tab.copy();
        t.extents[d] = 0;
        change(t);
        if (moved == d) {
            endMove();
        }
    }

    int drop(int d) {
        power();
        disk(d);
        boolean other = false;
        for (int i = 0; i < 4; i++) {
            other |= i != d && tab.extents[i] > 0 && present[i];
        }
        support(tab.extents[d] > 0 && !present[d] && other);
        int n = legsOn(d);
        Tab t = tab.copy();
        t.extents[d] = 0;
        for (Volume made : t.volumes) {
            for (Extent[] legs : made == null ? new ArrayList<Extent[]>() : made.elements) {
                for (int l = 0; l < 2; l++) {
                    legs[l] = legs[l] != null && legs[l].disk == d ? null : legs[l];
                }
            }
        }
        change(t);
        return n;
    }

    int make(int kind, int columns, int elements) {
        power();
        boolean shape = kind == 1 ? columns == 2 || columns == 3 : (kind == 0 || kind == 2) && columns == 1;
        if (!shape || !allowed(columns, elements)) {
            throw new IllegalArgumentException();
        }
        int v = 0;
        while (v < 4 && tab.volumes[v] != null) {
            v++;
        }
        support(v < 4 && !listedAbsent());
        Tab t = tab.copy();
        t.volumes[v] = new Volume();
        t.volumes[v].kind = kind;
        t.volumes[v].columns = columns;
        extend(t, v, elements);
        return v;
    }

    int grow(int v, int n) {
        power();
        Volume old = vol(v);
        if (n < 1 || n > 5 || !allowed(old.columns, old.elements.size() + n)) {
            throw new IllegalArgumentException();
        }
        support(!listedAbsent());
        Tab t = tab.copy();
        extend(t, v, n);
        return t.volumes[v].elements.size();
    }

    int shrink(int v, int n) {
        power();
        Volume old = vol(v);
        int size = old.elements.size();
        if (n < 1 || n >= size || !allowed(old.columns, n)) {
            throw new IllegalArgumentException();
        }
        support(!listedAbsent());
        Tab t = tab.copy();
        t.volumes[v].elements.subList(n, size).clear();
        change(t);
        return size - n;
    }

    void delete(int v) {
        power();
        vol(v);
        support(!listedAbsent());
        Tab t = tab.copy();
        t.volumes[v] = null;
        change(t);
    }

    int mend(int v) {
        power();
        if (vol(v).kind != 2) {
            throw new IllegalArgumentException();
        }
        support(!listedAbsent());
        Tab t = tab.copy();
        List<Extent[]> pairs = new ArrayList<>();
        for (int e = 0; e < t.volumes[v].elements.size(); e++) {
            Extent[] legs = t.volumes[v].elements.get(e);
            for (int l = 0; l < 2; l++) {
                if (legs[l] == null && legs[1 - l] != null) {
                    legs[l] = room(t, v, e, l, -1);
                    support(legs[l] != null);
                    pairs.add(new Extent[] {legs[1 - l], legs[l]});
                    break;
                }
            }
        }
        for (Extent[] pair : pairs) {
            for (int k = 0; k < 4; k++) {
                put(pair[1], k, get(pair[0], k));
            }
        }
        if (!pairs.isEmpty()) {
            change(t);
        }
        return pairs.size();
    }

    int write(int v, int w, int value) {
        power();
        Volume made = word(v, w);
        int c = made.columns;
        int e = c * (w / (4 * c)) + w % c;
        int k = w % (4 * c) / c;
        Extent[] legs = made.elements.get(e);
        support(readable(legs[0]) || readable(legs[1]));
        for (int l = 0; l < 2; l++) {
            if (legs[l] != null && !present[legs[l].disk]) {
                Tab t = tab.copy();
                t.volumes[v].elements.get(e)[l] = null;
                change(t);
            }
        }
        legs = tab.volumes[v].elements.get(e);
        int n = 0;
        for (int l = 0; l < 2; l++) {
            if (readable(legs[l])) {
                n++;
                put(legs[l], k, value);
                if (isCopying(v, e, l) && k < copied) {
                    put(target, k, value);
                }
            }
        }
        return n;
    }

    int read(int v, int w) {
        power();
        Volume made = word(v, w);
        int c = made.columns;
        Extent[] legs = made.elements.get(c * (w / (4 * c)) + w % c);
        support(readable(legs[0]) || readable(legs[1]));
        return get(readable(legs[0]) ? legs[0] : legs[1], w % (4 * c) / c);
    }

    int empty(int d) {
        power();
        disk(d);
        support(tab.extents[d] > 0 && moved < 0 && !listedAbsent());
        moved = d;
        return legsOn(d);
    }

    int step() {
        power();
        support(moved >= 0);
        if (copying == null) {
            copying = firstOn(moved);
            if (copying == null) {
                endMove();
                return 0;
            }
            target = room(tab, copying[0], copying[1], copying[2], moved);
            if (target == null) {
                endMove();
                return -1;
            }
            copied = 0;
        }
        put(target, copied, get(tab.volumes[copying[0]].elements.get(copying[1])[copying[2]], copied));
        copied++;
        if (copied == 4) {
            Tab t = tab.copy();
            t.volumes[copying[0]].elements.get(copying[1])[copying[2]] = target;
            copying = null;
            target = null;
            change(t);
        }
        int left = legsOn(moved);
        if (left == 0) {
            endMove();
        }
        return left;
    }

    int moving() {
        return moved;
    }

    int volume(int v, int what) {
        power();
        Volume made = vol(v);
        if (what < 0 || what > 3) {
            throw new IllegalArgumentException();
        }
        int n = made.elements.size();
        return new int[] {made.kind, made.columns, n, 4 * n}[what];
    }

    int where(int v, int e, int l) {
        power();
        Volume made = vol(v);
        if (e < 0 || e >= made.elements.size() || l < 0 || l >= made.legsEach()) {
            return -1;
        }
        Extent at = made.elements.get(e)[l];
        return at == null ? -1 : 8 * at.disk + at.place;
    }

    int free(int d) {
        power();
        disk(d);
        return tab.extents[d] == 0 ? -1 : freePlaces(tab, d).size();
    }

    void cut(int n) {
        power();
        if (n < -1) {
            throw new IllegalArgumentException();
        }
        cut = n;
    }

    void off() {
        power();
        power = false;
        cut = -1;
        endMove();
    }

    boolean plug(int d, boolean is) {
        if (power) {
            throw new IllegalStateException();
        }
        disk(d);
        boolean was = present[d];
        present[d] = is;
        return was != is;
    }

    int start() {
        if (power) {
            throw new IllegalStateException();
        }
        power = true;
        tab = new Tab();
        for (int d = 0; d < 4; d++) {
            for (int[] slot : slots[d]) {
                if (present[d] && whole(slot) && slot[0] > tab.number) {
                    tab = Tab.of(slot);
                }
            }
        }
        for (int d = 0; d < 4; d++) {
            boolean has = false;
            for (int[] slot : slots[d]) {
                has |= whole(slot) && slot[0] == tab.number;
            }
            if (tab.extents[d] > 0 && present[d] && !has) {
                writeTab(tab, d);
            }
        }
        for (Volume made : tab.volumes) {
            for (Extent[] legs : made == null ? new ArrayList<Extent[]>() : made.elements) {
                for (int k = 0; k < 4; k++) {
                    if (readable(legs[0]) && readable(legs[1]) && get(legs[0], k) != get(legs[1], k)) {
                        put(legs[1], k, get(legs[0], k));
                    }
                }
            }
        }
        return tab.number;
    }

    int number() {
        return power ? tab.number : -1;
    }

    int look(int d, int s, int i) {
        if (d < 0 || d > 3 || s < 0 || s > 2 || i < 0 || i >= (s == 2 ? 32 : 51)) {
            throw new IndexOutOfBoundsException();
        }
        return s == 2 ? extents[d][i] : slots[d][s][i];
    }

    private void power() {
        if (!power) {
            throw new IllegalStateException();
        }
    }

    private static void disk(int d) {
        if (d < 0 || d > 3) {
            throw new IllegalArgumentException();
        }
    }

    private static void support(boolean is) {
        if (!is) {
            throw new UnsupportedOperationException();
        }
    }

    private Volume vol(int v) {
        if (v < 0 || v > 3 || tab.volumes[v] == null) {
            throw new NoSuchElementException();
        }
        return tab.volumes[v];
    }

    private Volume word(int v, int w) {
        Volume made = vol(v);
        if (w < 0 || w >= 4 * made.elements.size()) {
            throw new IndexOutOfBoundsException();
        }
        return made;
    }

    private static boolean allowed(int columns, int elements) {
        return elements >= 1 && elements <= 5 && elements % columns == 0;
    }

    private boolean listedAbsent() {
        for (int d = 0; d < 4; d++) {
            if (tab.extents[d] > 0 && !present[d]) {
                return true;
            }
        }
        return false;
    }

    private boolean readable(Extent at) {
        return at != null && present[at.disk];
    }

    private int get(Extent at, int k) {
        return extents[at.disk][4 * at.place + k];
    }

    private void put(Extent at, int k, int value) {
        put(extents[at.disk], 4 * at.place + k, value);
    }

    private void put(int[] words, int i, int value) {
        if (cut == 0) {
            off();
            throw new IllegalStateException();
        }
        cut = cut < 0 ? cut : cut - 1;
        words[i] = value;
    }

    private static boolean whole(int[] slot) {
        return slot[0] > 0 && Arrays.equals(slot, Tab.of(slot).words());
    }

    private void change(Tab t) {
        t.number = tab.number + (listedAbsent() ? 2 : 1);
        for (int d = 0; d < 4; d++) {
            if (t.extents[d] > 0 && present[d]) {
                writeTab(t, d);
            }
        }
        tab = t;
        if (copying != null && !stillThere()) {
            copying = null;
            target = null;
        }
    }

    private boolean stillThere() {
        Volume made = tab.volumes[copying[0]];
        return made != null && copying[1] < made.elements.size() && made.elements.get(copying[1])[copying[2]] != null;
    }

    private void writeTab(Tab t, int d) {
        boolean whole0 = whole(slots[d][0]);
        boolean whole1 = whole(slots[d][1]);
        int s;
        if (whole0 && whole1) {
            s = slots[d][0][0] < slots[d][1][0] ? 0 : 1;
        } else {
            s = whole0 ? 1 : 0;
        }
        int[] words = t.words();
        for (int i = 0; i < 51; i++) {
            put(slots[d][s], i, words[i]);
        }
    }

    private int legsOn(int d) {
        int n = 0;
        for (Volume made : tab.volumes) {
            for (Extent[] legs : made == null ? new ArrayList<Extent[]>() : made.elements) {
                for (Extent at : legs) {
                    n += at != null && at.disk == d ? 1 : 0;
                }
            }
        }
        return n;
    }

    private int[] firstOn(int d) {
        for (int v = 0; v < 4; v++) {
            for (int e = 0; tab.volumes[v] != null && e < tab.volumes[v].elements.size(); e++) {
                for (int l = 0; l < 2; l++) {
                    Extent at = tab.volumes[v].elements.get(e)[l];
                    if (at != null && at.disk == d) {
                        return new int[] {v, e, l};
                    }
                }
            }
        }
        return null;
    }

    private boolean isCopying(int v, int e, int l) {
        return target != null && Arrays.equals(copying, new int[] {v, e, l});
    }

    private void endMove() {
        moved = -1;
        copying = null;
        target = null;
    }

    private List<Integer> freePlaces(Tab t, int d) {
        List<Integer> places = new ArrayList<>();
        for (int p = 0; p < t.extents[d]; p++) {
            places.add(p);
        }
        for (Volume made : t.volumes) {
            for (Extent[] legs : made == null ? new ArrayList<Extent[]>() : made.elements) {
                for (Extent at : legs) {
                    if (at != null && at.disk == d) {
                        places.remove(Integer.valueOf(at.place));
                    }
                }
            }
        }
        if (target != null && target.disk == d) {
            places.remove(Integer.valueOf(target.place));
        }
        return places;
    }

    private Extent room(Tab t, int v, int e, int l, int notOn) {
        List<Integer> barred = new ArrayList<>();
        barred.add(notOn);
        Volume made = t.volumes[v];
        for (int i = 0; i < made.elements.size(); i++) {
            for (int k = 0; k < 2; k++) {
                boolean itself = i == e && k == l;
                if (itself || i / made.columns != e / made.columns) {
                    continue;
                }
                Extent at = made.elements.get(i)[k];
                if (at != null) {
                    barred.add(at.disk);
                }
                if (isCopying(v, i, k)) {
                    barred.add(target.disk);
                }
            }
        }
        Extent best = null;
        int most = 0;
        for (int d = 0; d < 4; d++) {
            List<Integer> places = freePlaces(t, d);
            if (t.extents[d] > 0 && present[d] && !barred.contains(d) && places.size() > most) {
                most = places.size();
                best = new Extent(d, places.get(0));
            }
        }
        return best;
    }

    private void extend(Tab t, int v, int n) {
        Volume made = t.volumes[v];
        int from = made.elements.size();
        for (int e = from; e < from + n; e++) {
            made.elements.add(new Extent[2]);
        }
        for (int e = from; e < from + n; e++) {
            for (int l = 0; l < made.legsEach(); l++) {
                made.elements.get(e)[l] = room(t, v, e, l, -1);
                support(made.elements.get(e)[l] != null);
            }
        }
        for (int e = from; e < from + n; e++) {
            for (int l = 0; l < made.legsEach(); l++) {
                for (int k = 0; k < 4; k++) {
                    put(made.elements.get(e)[l], k, 0);
                }
            }
        }
        change(t);
    }
}

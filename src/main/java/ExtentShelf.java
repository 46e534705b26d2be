import java.util.NoSuchElementException;

/**
 * Volumes put together from the extents of four disks, with a table that lies on every disk twice.
 *
 * <p>Inside, an extent is named by its spot, 8 * disk + place, and a leg by its number among the 40
 * that a table has room for: 10 * volume + 2 * element + leg.
 */
public final class ExtentShelf {
    public static final int NONE = -1;

    private static final int DISKS = 4;
    private static final int PLACES = 8;
    private static final int FEWEST_EXTENTS = 2;
    private static final int EXTENT_WORDS = 4;
    private static final int DISK_WORDS = PLACES * EXTENT_WORDS;
    private static final int SLOTS = 2;
    private static final int SLOT_WORDS = 51;
    private static final int VOLUMES = 4;
    private static final int MOST_ELEMENTS = 5;
    private static final int LEGS = 2;
    private static final int VOLUME_LEGS = MOST_ELEMENTS * LEGS;
    private static final int ALL_LEGS = VOLUMES * VOLUME_LEGS;
    private static final int LINEAR = 0;
    private static final int STRIPED = 1;
    private static final int TWINNED = 2;

    private final Disks disks = new Disks();
    private final Table table = new Table();
    private final Table draft = new Table();
    private final Move move = new Move();
    private boolean powerOn = true;
    private int wordsBeforeCut = NONE;

    public ExtentShelf() {
    }

    public void add(int d, int extents)
            throws IllegalStateException, IllegalArgumentException, UnsupportedOperationException {
        requirePower();
        requireDisk(d);
        if (extents < FEWEST_EXTENTS || extents > PLACES) {
            throw new IllegalArgumentException("a disk has 2 to 8 extents");
        }
        if (table.lists(d) || disks.isAbsent(d)) {
            throw new UnsupportedOperationException("the disk is listed or absent");
        }
        requireListedPresent();
        disks.clearExtents(d);
        beginDraft();
        draft.setExtents(d, extents);
        commitDraft();
    }

    public void remove(int d)
            throws IllegalStateException, IllegalArgumentException, UnsupportedOperationException {
        requirePower();
        requireDisk(d);
        requireListed(d);
        if (table.legsOn(d) > 0 || diskOf(move.target) == d) {
            throw new UnsupportedOperationException("the disk is in use");
        }
        if (table.countListed() == 1) {
            throw new UnsupportedOperationException("it is the only disk");
        }
        requireListedPresent();
        beginDraft();
        draft.setExtents(d, 0);
        commitDraft();
        if (move.disk == d) {
            move.end();
        }
    }

    public int drop(int d)
            throws IllegalStateException, IllegalArgumentException, UnsupportedOperationException {
        requirePower();
        requireDisk(d);
        requireListed(d);
        if (!disks.isAbsent(d) || !isAnyListedPresent()) {
            throw new UnsupportedOperationException("the disk is present, or no other one is");
        }
        int gone = table.legsOn(d);
        beginDraft();
        draft.setExtents(d, 0);
        draft.loseLegsOn(d);
        commitDraft();
        return gone;
    }

    public int make(int kind, int columns, int elements)
            throws IllegalStateException, IllegalArgumentException, UnsupportedOperationException {
        requirePower();
        if (!isShape(kind, columns) || !mayHave(columns, elements)) {
            throw new IllegalArgumentException("there is no such volume");
        }
        requireListedPresent();
        int v = table.leastUnusedVolume();
        if (v == NONE) {
            throw new UnsupportedOperationException("there are four volumes");
        }
        beginDraft();
        draft.describe(v, kind, columns, elements);
        fillElements(v, 0);
        return v;
    }

    public int grow(int v, int n)
            throws IllegalStateException, NoSuchElementException, IllegalArgumentException,
            UnsupportedOperationException {
        requirePower();
        requireVolume(v);
        int before = table.elementsOf(v);
        // The bound on n stands first, so that the sum can't wrap.
        if (n < 1 || n > MOST_ELEMENTS || !mayHave(table.columnsOf(v), before + n)) {
            throw new IllegalArgumentException("there may not be so many elements");
        }
        requireListedPresent();
        beginDraft();
        draft.describe(v, table.kindOf(v), table.columnsOf(v), before + n);
        fillElements(v, before);
        return before + n;
    }

    public int shrink(int v, int n)
            throws IllegalStateException, NoSuchElementException, IllegalArgumentException,
            UnsupportedOperationException {
        requirePower();
        requireVolume(v);
        int before = table.elementsOf(v);
        if (n >= before || !mayHave(table.columnsOf(v), n)) {
            throw new IllegalArgumentException("there may not be so many elements");
        }
        requireListedPresent();
        beginDraft();
        draft.describe(v, table.kindOf(v), table.columnsOf(v), n);
        draft.loseElements(v, n);
        commitDraft();
        return before - n;
    }

    public void delete(int v)
            throws IllegalStateException, NoSuchElementException, UnsupportedOperationException {
        requirePower();
        requireVolume(v);
        requireListedPresent();
        beginDraft();
        draft.forget(v);
        commitDraft();
    }

    public int mend(int v)
            throws IllegalStateException, NoSuchElementException, IllegalArgumentException,
            UnsupportedOperationException {
        requirePower();
        requireVolume(v);
        if (table.kindOf(v) != TWINNED) {
            throw new IllegalArgumentException("the volume is not twinned");
        }
        requireListedPresent();
        beginDraft();
        int mended = findRoomForLostLegs(v);
        if (mended > 0) {
            copyToNewLegs(v);
            commitDraft();
        }
        return mended;
    }

    public int write(int v, int w, int value)
            throws IllegalStateException, NoSuchElementException, IndexOutOfBoundsException,
            UnsupportedOperationException {
        requirePower();
        requireVolume(v);
        requireWord(v, w);
        int e = elementOfWord(v, w);
        if (leastReadableLeg(v, e) == NONE) {
            throw new UnsupportedOperationException("no leg can be written");
        }
        loseAbsentLeg(v, e);
        int k = placeOfWord(v, w);
        int written = 0;
        for (int l = 0; l < LEGS; l++) {
            int leg = legOf(v, e, l);
            if (isReadable(leg)) {
                putLegWord(leg, k, value);
                written++;
            }
        }
        return written;
    }

    public int read(int v, int w)
            throws IllegalStateException, NoSuchElementException, IndexOutOfBoundsException,
            UnsupportedOperationException {
        requirePower();
        requireVolume(v);
        requireWord(v, w);
        int leg = leastReadableLeg(v, elementOfWord(v, w));
        if (leg == NONE) {
            throw new UnsupportedOperationException("no leg can be read");
        }
        return disks.extentWord(table.spotOf(leg), placeOfWord(v, w));
    }

    public int empty(int d)
            throws IllegalStateException, IllegalArgumentException, UnsupportedOperationException {
        requirePower();
        requireDisk(d);
        requireListed(d);
        if (move.disk != NONE) {
            throw new UnsupportedOperationException("a move is under way");
        }
        requireListedPresent();
        move.begin(d);
        return table.legsOn(d);
    }

    public int step() throws IllegalStateException, UnsupportedOperationException {
        requirePower();
        if (move.disk == NONE) {
            throw new UnsupportedOperationException("no move is under way");
        }
        if (move.leg == NONE) {
            int leg = table.firstLegOn(move.disk);
            int target = leg == NONE ? NONE : findRoomToMove(leg);
            if (target == NONE) {
                move.end();
                return leg == NONE ? 0 : NONE;
            }
            move.beginCopy(leg, target);
        }
        copyNextWord();
        int left = table.legsOn(move.disk);
        if (left == 0) {
            move.end();
        }
        return left;
    }

    public int moving() {
        return move.disk;
    }

    public int volume(int v, int what)
            throws IllegalStateException, NoSuchElementException, IllegalArgumentException {
        requirePower();
        requireVolume(v);
        switch (what) {
            case 0:
                return table.kindOf(v);
            case 1:
                return table.columnsOf(v);
            case 2:
                return table.elementsOf(v);
            case 3:
                return countWords(v);
            default:
                throw new IllegalArgumentException("what is 0 to 3");
        }
    }

    public int where(int v, int e, int l) throws IllegalStateException, NoSuchElementException {
        requirePower();
        requireVolume(v);
        if (e < 0 || e >= MOST_ELEMENTS || l < 0 || l >= LEGS) {
            return NONE;
        }
        return table.spotOf(legOf(v, e, l));
    }

    public int free(int d) throws IllegalStateException, IllegalArgumentException {
        requirePower();
        requireDisk(d);
        return table.lists(d) ? countFree(table, d) : NONE;
    }

    public void cut(int n) throws IllegalStateException, IllegalArgumentException {
        requirePower();
        if (n < NONE) {
            throw new IllegalArgumentException("n is below NONE");
        }
        wordsBeforeCut = n;
    }

    public void off() throws IllegalStateException {
        requirePower();
        losePower();
    }

    public boolean plug(int d, boolean present) throws IllegalStateException, IllegalArgumentException {
        requireNoPower();
        requireDisk(d);
        boolean isNew = present == disks.isAbsent(d);
        disks.setAbsent(d, !present);
        return isNew;
    }

    public int start() throws IllegalStateException {
        requireNoPower();
        powerOn = true;
        loadNewestTable();
        for (int d = 0; d < DISKS; d++) {
            if (isListedAndPresent(table, d) && !disks.hasWhole(d, table.serial())) {
                writeTable(table, d);
            }
        }
        for (int leg = 0; leg < ALL_LEGS; leg += LEGS) {
            alignTwins(leg, leg + 1);
        }
        return table.serial();
    }

    public int number() {
        return powerOn ? table.serial() : NONE;
    }

    public int look(int d, int s, int i) throws IndexOutOfBoundsException {
        boolean inSlot = s >= 0 && s < SLOTS && i >= 0 && i < SLOT_WORDS;
        boolean inExtents = s == SLOTS && i >= 0 && i < DISK_WORDS;
        if (!isDisk(d) || !(inSlot || inExtents)) {
            throw new IndexOutOfBoundsException("there is no such word");
        }
        return inSlot ? disks.slotWord(d, s, i) : disks.extentWord(d * PLACES, i);
    }

    // What the calls ask for before they do anything.

    private void requirePower() {
        if (!powerOn) {
            throw new IllegalStateException("the power is off");
        }
    }

    private void requireNoPower() {
        if (powerOn) {
            throw new IllegalStateException("the power is on");
        }
    }

    private static boolean isDisk(int d) {
        return d >= 0 && d < DISKS;
    }

    private static void requireDisk(int d) {
        if (!isDisk(d)) {
            throw new IllegalArgumentException("there is no such disk");
        }
    }

    private void requireListed(int d) {
        if (!table.lists(d)) {
            throw new UnsupportedOperationException("the disk is not listed");
        }
    }

    private void requireListedPresent() {
        if (isAnyListedAbsent()) {
            throw new UnsupportedOperationException("a listed disk is absent");
        }
    }

    private void requireVolume(int v) {
        if (v < 0 || v >= VOLUMES || !table.has(v)) {
            throw new NoSuchElementException("there is no such volume");
        }
    }

    private void requireWord(int v, int w) {
        if (w < 0 || w >= countWords(v)) {
            throw new IndexOutOfBoundsException("there is no such word");
        }
    }

    private boolean isAnyListedAbsent() {
        for (int d = 0; d < DISKS; d++) {
            if (table.lists(d) && disks.isAbsent(d)) {
                return true;
            }
        }
        return false;
    }

    private boolean isAnyListedPresent() {
        for (int d = 0; d < DISKS; d++) {
            if (isListedAndPresent(table, d)) {
                return true;
            }
        }
        return false;
    }

    private static boolean isShape(int kind, int columns) {
        if (kind == STRIPED) {
            return columns == 2 || columns == 3;
        }
        return (kind == LINEAR || kind == TWINNED) && columns == 1;
    }

    private static boolean mayHave(int columns, int elements) {
        return elements >= 1 && elements <= MOST_ELEMENTS && columns >= 1 && elements % columns == 0;
    }

    // Names of legs, spots and words.

    private static int legOf(int v, int e, int l) {
        return v * VOLUME_LEGS + e * LEGS + l;
    }

    private static int diskOf(int spot) {
        return spot == NONE ? NONE : spot / PLACES;
    }

    private int countWords(int v) {
        return table.elementsOf(v) * EXTENT_WORDS;
    }

    private int elementOfWord(int v, int w) {
        int columns = table.columnsOf(v);
        return columns * (w / (EXTENT_WORDS * columns)) + w % columns;
    }

    private int placeOfWord(int v, int w) {
        int columns = table.columnsOf(v);
        return w % (EXTENT_WORDS * columns) / columns;
    }

    private boolean isReadable(int leg) {
        int spot = table.spotOf(leg);
        return spot != NONE && !disks.isAbsent(diskOf(spot));
    }

    private int leastReadableLeg(int v, int e) {
        for (int l = 0; l < LEGS; l++) {
            int leg = legOf(v, e, l);
            if (isReadable(leg)) {
                return leg;
            }
        }
        return NONE;
    }

    // Words that are written, and the power that may go off at each.

    private void losePower() {
        powerOn = false;
        wordsBeforeCut = NONE;
        move.end();
    }

    private void spendWord() {
        if (wordsBeforeCut == 0) {
            losePower();
            throw new IllegalStateException("the power went off");
        }
        if (wordsBeforeCut > 0) {
            wordsBeforeCut--;
        }
    }

    private void putWord(int spot, int k, int value) {
        spendWord();
        disks.setExtentWord(spot, k, value);
    }

    private void putLegWord(int leg, int k, int value) {
        putWord(table.spotOf(leg), k, value);
        if (move.hasCopied(leg, k)) {
            putWord(move.target, k, value);
        }
    }

    // Changes of the table: a draft is made from it, changed, and committed.

    private void beginDraft() {
        draft.takeFrom(table.words, 0);
    }

    private void commitDraft() {
        // An absent disk may hold a change that was cut off, with a number that is 1 more: 2 more is beyond it.
        draft.seal(table.serial() + (isAnyListedAbsent() ? 2 : 1));
        for (int d = 0; d < DISKS; d++) {
            if (isListedAndPresent(draft, d)) {
                writeTable(draft, d);
            }
        }
        table.takeFrom(draft.words, 0);
        if (move.leg != NONE && table.spotOf(move.leg) == NONE) {
            move.endCopy();
        }
    }

    private boolean isListedAndPresent(Table t, int d) {
        return t.lists(d) && !disks.isAbsent(d);
    }

    private void writeTable(Table t, int d) {
        int s = disks.slotToWrite(d);
        for (int i = 0; i < SLOT_WORDS; i++) {
            spendWord();
            disks.setSlotWord(d, s, i, t.words[i]);
        }
    }

    private void loseAbsentLeg(int v, int e) {
        for (int l = 0; l < LEGS; l++) {
            int leg = legOf(v, e, l);
            if (table.spotOf(leg) != NONE && !isReadable(leg)) {
                beginDraft();
                draft.setSpot(leg, NONE);
                commitDraft();
            }
        }
    }

    // Room, which is found in the draft: there the legs that have just got theirs are seen.

    private int countFree(Table t, int d) {
        return t.extentsOf(d) - t.legsOn(d) - (diskOf(move.target) == d ? 1 : 0);
    }

    private int findRoom(int v, int e, int l, int barred) {
        int allBarred = barred | groupDisks(v, e, l);
        int best = NONE;
        int most = 0;
        for (int d = 0; d < DISKS; d++) {
            int free = countFree(draft, d);
            if (isListedAndPresent(draft, d) && ((allBarred >> d) & 1) == 0 && free > most) {
                best = d;
                most = free;
            }
        }
        return best == NONE ? NONE : leastFreeSpot(best);
    }

    private int leastFreeSpot(int d) {
        int first = d * PLACES;
        for (int spot = first; spot < first + draft.extentsOf(d); spot++) {
            if (spot != move.target && !draft.isUsed(spot)) {
                return spot;
            }
        }
        return NONE;
    }

    /** The disks, a bit each, that the other legs of a leg's group are on or being copied to. */
    private int groupDisks(int v, int e, int l) {
        int columns = draft.columnsOf(v);
        int first = e - e % columns;
        int bits = 0;
        for (int i = first; i < first + columns; i++) {
            for (int k = 0; k < LEGS; k++) {
                if (i != e || k != l) {
                    bits |= disksOfLeg(legOf(v, i, k));
                }
            }
        }
        return bits;
    }

    private int disksOfLeg(int leg) {
        int bits = bitOfDisk(draft.spotOf(leg));
        return move.leg == leg ? bits | bitOfDisk(move.target) : bits;
    }

    private static int bitOfDisk(int spot) {
        return spot == NONE ? 0 : 1 << (spot / PLACES);
    }

    private void giveRoom(int v, int e, int l) {
        int spot = findRoom(v, e, l, 0);
        if (spot == NONE) {
            throw new UnsupportedOperationException("there is no room");
        }
        draft.setSpot(legOf(v, e, l), spot);
    }

    /** Finds room for the draft's elements of a volume from one on, clears them and commits. */
    private void fillElements(int v, int from) {
        int legs = draft.kindOf(v) == TWINNED ? LEGS : 1;
        int elements = draft.elementsOf(v);
        for (int e = from; e < elements; e++) {
            for (int l = 0; l < legs; l++) {
                giveRoom(v, e, l);
            }
        }
        for (int e = from; e < elements; e++) {
            for (int l = 0; l < legs; l++) {
                clearLeg(legOf(v, e, l));
            }
        }
        commitDraft();
    }

    private void clearLeg(int leg) {
        for (int k = 0; k < EXTENT_WORDS; k++) {
            putWord(draft.spotOf(leg), k, 0);
        }
    }

    // Mending.

    private int findRoomForLostLegs(int v) {
        int found = 0;
        for (int e = 0; e < table.elementsOf(v); e++) {
            int lost = lostLeg(v, e);
            if (lost != NONE) {
                giveRoom(v, e, lost);
                found++;
            }
        }
        return found;
    }

    /** The leg, 0 or 1, that is gone while the other one is not; NONE. */
    private int lostLeg(int v, int e) {
        boolean has0 = table.spotOf(legOf(v, e, 0)) != NONE;
        boolean has1 = table.spotOf(legOf(v, e, 1)) != NONE;
        if (has0 == has1) {
            return NONE;
        }
        return has0 ? 1 : 0;
    }

    private void copyToNewLegs(int v) {
        for (int e = 0; e < table.elementsOf(v); e++) {
            int lost = lostLeg(v, e);
            if (lost != NONE) {
                int from = table.spotOf(legOf(v, e, 1 - lost));
                copyExtent(from, draft.spotOf(legOf(v, e, lost)));
            }
        }
    }

    private void copyExtent(int from, int to) {
        for (int k = 0; k < EXTENT_WORDS; k++) {
            putWord(to, k, disks.extentWord(from, k));
        }
    }

    // Moves.

    private int findRoomToMove(int leg) {
        beginDraft();
        int v = leg / VOLUME_LEGS;
        int e = leg % VOLUME_LEGS / LEGS;
        return findRoom(v, e, leg % LEGS, 1 << move.disk);
    }

    private void copyNextWord() {
        int from = table.spotOf(move.leg);
        putWord(move.target, move.copied, disks.extentWord(from, move.copied));
        move.copied++;
        if (move.copied == EXTENT_WORDS) {
            beginDraft();
            draft.setSpot(move.leg, move.target);
            commitDraft();
            move.endCopy();
        }
    }

    // Power that comes on.

    private void loadNewestTable() {
        int newest = disks.newestWholeSlot();
        if (newest == NONE) {
            table.clear();
        } else {
            table.takeFrom(disks.slots, newest);
        }
    }

    private void alignTwins(int leg, int twin) {
        if (isReadable(leg) && isReadable(twin)) {
            copyExtent(table.spotOf(leg), table.spotOf(twin));
        }
    }

    /** A table, held as the words that are written to a slot. */
    private static final class Table {
        private static final int EXTENTS_AT = 1;
        private static final int VOLUME_AT = 5;
        private static final int LEG_AT = 9;
        private static final int SUM_AT = 49;
        private static final int LAST_AT = 50;

        private final int[] words = new int[SLOT_WORDS];

        private void takeFrom(int[] from, int at) {
            System.arraycopy(from, at, words, 0, SLOT_WORDS);
        }

        private void clear() {
            for (int i = 0; i < SLOT_WORDS; i++) {
                words[i] = 0;
            }
        }

        private void seal(int serial) {
            words[0] = serial;
            words[SUM_AT] = sumOf(words, 0);
            words[LAST_AT] = serial;
        }

        private static int sumOf(int[] from, int at) {
            int sum = 0;
            for (int i = 0; i < SUM_AT; i++) {
                sum += from[at + i] * (i + 1);
            }
            return sum;
        }

        private int serial() {
            return words[0];
        }

        private boolean lists(int d) {
            return extentsOf(d) != 0;
        }

        private int extentsOf(int d) {
            return words[EXTENTS_AT + d];
        }

        private void setExtents(int d, int extents) {
            words[EXTENTS_AT + d] = extents;
        }

        private int countListed() {
            int listed = 0;
            for (int d = 0; d < DISKS; d++) {
                if (lists(d)) {
                    listed++;
                }
            }
            return listed;
        }

        private boolean has(int v) {
            return words[VOLUME_AT + v] != 0;
        }

        private int leastUnusedVolume() {
            for (int v = 0; v < VOLUMES; v++) {
                if (!has(v)) {
                    return v;
                }
            }
            return NONE;
        }

        private void describe(int v, int kind, int columns, int elements) {
            words[VOLUME_AT + v] = 1 + kind + 4 * columns + 32 * elements;
        }

        private int kindOf(int v) {
            return words[VOLUME_AT + v] % 4 - 1;
        }

        /** Never below 1, so that it may divide. */
        private int columnsOf(int v) {
            return Math.max(1, words[VOLUME_AT + v] % 32 / 4);
        }

        private int elementsOf(int v) {
            return words[VOLUME_AT + v] / 32;
        }

        private void forget(int v) {
            words[VOLUME_AT + v] = 0;
            loseElements(v, 0);
        }

        private void loseElements(int v, int from) {
            for (int leg = legOf(v, from, 0); leg < legOf(v + 1, 0, 0); leg++) {
                setSpot(leg, NONE);
            }
        }

        /** Where a leg is; NONE when it is gone or there is none. */
        private int spotOf(int leg) {
            return words[LEG_AT + leg] - 1;
        }

        private void setSpot(int leg, int spot) {
            words[LEG_AT + leg] = spot + 1;
        }

        private boolean isUsed(int spot) {
            for (int leg = 0; leg < ALL_LEGS; leg++) {
                if (spotOf(leg) == spot) {
                    return true;
                }
            }
            return false;
        }

        private int legsOn(int d) {
            int legs = 0;
            for (int leg = 0; leg < ALL_LEGS; leg++) {
                if (diskOf(spotOf(leg)) == d) {
                    legs++;
                }
            }
            return legs;
        }

        private int firstLegOn(int d) {
            for (int leg = 0; leg < ALL_LEGS; leg++) {
                if (diskOf(spotOf(leg)) == d) {
                    return leg;
                }
            }
            return NONE;
        }

        private void loseLegsOn(int d) {
            for (int leg = 0; leg < ALL_LEGS; leg++) {
                if (diskOf(spotOf(leg)) == d) {
                    setSpot(leg, NONE);
                }
            }
        }
    }

    /** The words of all disks, slot by slot and extent by extent, and which disks are absent. */
    private static final class Disks {
        private final int[] slots = new int[DISKS * SLOTS * SLOT_WORDS];
        private final int[] extents = new int[DISKS * DISK_WORDS];
        private final boolean[] absent = new boolean[DISKS];

        private boolean isAbsent(int d) {
            return absent[d];
        }

        private void setAbsent(int d, boolean isAbsent) {
            absent[d] = isAbsent;
        }

        private static int startOfSlot(int d, int s) {
            return (d * SLOTS + s) * SLOT_WORDS;
        }

        private int slotWord(int d, int s, int i) {
            return slots[startOfSlot(d, s) + i];
        }

        private void setSlotWord(int d, int s, int i, int value) {
            slots[startOfSlot(d, s) + i] = value;
        }

        /** The number of the table in a slot that is whole; 0 when it is not. */
        private int wholeSerial(int d, int s) {
            int at = startOfSlot(d, s);
            int serial = slots[at];
            boolean whole = slots[at + Table.LAST_AT] == serial
                    && slots[at + Table.SUM_AT] == Table.sumOf(slots, at);
            return whole && serial > 0 ? serial : 0;
        }

        private boolean hasWhole(int d, int serial) {
            return wholeSerial(d, 0) == serial || wholeSerial(d, 1) == serial;
        }

        private int slotToWrite(int d) {
            return wholeSerial(d, 0) <= wholeSerial(d, 1) ? 0 : 1;
        }

        /** Where the whole slot with the greatest number starts; NONE when no present disk has one. */
        private int newestWholeSlot() {
            int newest = NONE;
            int greatest = 0;
            for (int d = 0; d < DISKS; d++) {
                for (int s = 0; s < SLOTS; s++) {
                    int serial = wholeSerial(d, s);
                    if (!isAbsent(d) && serial > greatest) {
                        newest = startOfSlot(d, s);
                        greatest = serial;
                    }
                }
            }
            return newest;
        }

        private int extentWord(int spot, int k) {
            return extents[spot * EXTENT_WORDS + k];
        }

        private void setExtentWord(int spot, int k, int value) {
            extents[spot * EXTENT_WORDS + k] = value;
        }

        private void clearExtents(int d) {
            for (int i = d * DISK_WORDS; i < (d + 1) * DISK_WORDS; i++) {
                extents[i] = 0;
            }
        }
    }

    /** The disk that is emptied, and the leg that is being copied: how much of it, and to where. */
    private static final class Move {
        private int disk = NONE;
        private int leg = NONE;
        private int target = NONE;
        private int copied = 0;

        private void begin(int d) {
            disk = d;
        }

        private void end() {
            disk = NONE;
            leg = NONE;
            target = NONE;
        }

        private void beginCopy(int ofLeg, int toSpot) {
            leg = ofLeg;
            target = toSpot;
            copied = 0;
        }

        private void endCopy() {
            leg = NONE;
            target = NONE;
        }

        private boolean hasCopied(int ofLeg, int k) {
            return leg == ofLeg && k < copied;
        }
    }
}

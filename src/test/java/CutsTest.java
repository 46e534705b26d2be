import java.util.ArrayList;
import java.util.Arrays;
import java.util.List;
import java.util.function.Consumer;
import java.util.function.Supplier;

/**
 * Every call that writes, cut off after each number of words: just the words before are written, in the order that the
 * document says, and when the power is on again the change is there wholly or not at all.
 */
public final class CutsTest {
    private static final int DISK_WORDS = 51 + 51 + 32;

    public static void main(String[] args) {
        promise2Add();
        promise2AddOfTheFirstDisk();
        promise3Remove();
        promise4Drop();
        promise5Make();
        promise6GrowStriped();
        promise6GrowTwinned();
        promise7Shrink();
        promise8Delete();
        promise9Mend();
        promise10Write();
        promise10WriteWithItsCopy();
        promise10WriteOfAWordNotCopiedYet();
        promise10WriteBesideAnAbsentLeg();
        promise13StepOfTheFirstWord();
        promise13StepOfTheLastWord();
        promise18CallsThatWriteNothing();
        promise21StartIsNotCut();
        Check.end();
    }

    /** The words that a call is to write, one after the other. */
    private static final class Writes {
        private final List<int[]> list = new ArrayList<>();
        private int firstTableEnd = Integer.MAX_VALUE;

        Writes word(int spot, int k, int value) {
            list.add(new int[] {spot / 8 * DISK_WORDS + 102 + 4 * (spot % 8) + k, value});
            return this;
        }

        Writes extent(int spot, int... values) {
            for (int k = 0; k < 4; k++) {
                word(spot, k, values[k]);
            }
            return this;
        }

        Writes table(int d, int slot, TableWords table) {
            int[] words = table.sealed();
            for (int i = 0; i < 51; i++) {
                list.add(new int[] {d * DISK_WORDS + 51 * slot + i, words[i]});
            }
            firstTableEnd = Math.min(firstTableEnd, list.size());
            return this;
        }

        /** What the disks hold when n of the words have been written to what they held. */
        int[] after(int n, int[] image) {
            int[] then = image.clone();
            for (int i = 0; i < n; i++) {
                then[list.get(i)[0]] = list.get(i)[1];
            }
            return then;
        }
    }

    private static int[] image(ExtentShelf x) {
        int[] image = new int[4 * DISK_WORDS];
        for (int d = 0; d < 4; d++) {
            for (int i = 0; i < DISK_WORDS; i++) {
                int s = Math.min(2, i / 51);
                image[d * DISK_WORDS + i] = x.look(d, s, i - 51 * s);
            }
        }
        return image;
    }

    /** The volumes, where their legs are, and what is free. */
    private static String tableOf(ExtentShelf x) {
        StringBuilder text = new StringBuilder();
        for (int v = 0; v < 4; v++) {
            for (int what = 0; what < 4; what++) {
                int volume = v;
                int which = what;
                text.append(Check.outcome(() -> "" + x.volume(volume, which))).append(' ');
            }
            text.append(Shelves.legs(x, v)).append(' ').append(x.free(v)).append(' ');
        }
        return text.toString();
    }

    private static String contents(ExtentShelf x) {
        StringBuilder text = new StringBuilder();
        for (int v = 0; v < 4; v++) {
            for (int w = 0; w < 20; w++) {
                int volume = v;
                int word = w;
                text.append(Check.outcome(() -> "" + x.read(volume, word))).append(' ');
            }
        }
        return text.toString();
    }

    /**
     * Cuts the call off after each number of words; from contentsEnd words on what the volumes hold is new (of a call
     * that changes the table: from where its first table is written).
     */
    private static void atEveryCut(String call, Supplier<ExtentShelf> shelf, Consumer<ExtentShelf> action,
            Writes writes, int contentsEnd) {
        ExtentShelf never = shelf.get();
        int oldNumber = never.number();
        Shelves.restart(never);
        ExtentShelf whole = shelf.get();
        action.accept(whole);
        int newNumber = whole.number();
        Shelves.restart(whole);
        int all = writes.list.size();
        for (int n = 0; n <= all; n++) {
            String at = call + " with " + n + " words of " + all + ": ";
            ExtentShelf x = shelf.get();
            int[] before = image(x);
            x.cut(n);
            Check.same(at + "it", Check.outcome(() -> action.accept(x)), n < all ? "IllegalStateException" : "done");
            Check.same(at + "written", Arrays.toString(image(x)), Arrays.toString(writes.after(n, before)));
            if (n < all) {
                Check.due(at + "number() without power", x::number, -1);
                Check.due(at + "moving() without power", x::moving, -1);
            } else {
                Check.due(at + "number()", x::number, newNumber);
                x.off();
            }
            boolean isNew = n >= writes.firstTableEnd;
            Check.due(at + "start()", x::start, isNew ? newNumber : oldNumber);
            Check.same(at + "the table", tableOf(x), tableOf(isNew ? whole : never));
            Check.same(at + "the words", contents(x), contents(n >= contentsEnd ? whole : never));
        }
    }

    private static void atEveryCut(String call, Supplier<ExtentShelf> shelf, Consumer<ExtentShelf> action,
            Writes writes) {
        atEveryCut(call, shelf, action, writes, writes.firstTableEnd);
    }

    private static void fill(ExtentShelf x, int v, int first) {
        for (int w = 0; w < x.volume(v, 3); w++) {
            x.write(v, w, first + w);
        }
    }

    private static void promise2Add() {
        Supplier<ExtentShelf> shelf = () -> {
            ExtentShelf x = Shelves.with(4, 0, 3, 8);
            x.make(0, 1, 1);
            fill(x, 0, 70);
            x.delete(0);
            x.remove(3);
            return x;
        };
        TableWords table = new TableWords(7, 4, 0, 3, 5);
        ExtentShelf x = shelf.get();
        Check.same("the words of the disk that is added", Shelves.words(x, 3, 2), "70 71 72 73 " + "0 ".repeat(28));
        // The extents become 0 in one: they are so already when no word has been written.
        Consumer<ExtentShelf> add = y -> y.add(3, 5);
        Supplier<ExtentShelf> cleared = () -> {
            ExtentShelf y = shelf.get();
            y.cut(0);
            Check.badState("add(3, 5) with no word", () -> add.accept(y));
            Check.same("its extents are 0", Shelves.words(y, 3, 2), "0 ".repeat(32));
            y.start();
            return y;
        };
        atEveryCut("add(3, 5)", cleared, add, new Writes().table(0, 0, table).table(2, 1, table).table(3, 1, table));
    }

    private static void promise2AddOfTheFirstDisk() {
        TableWords table = new TableWords(1, 0, 0, 2, 0);
        atEveryCut("add(2, 2)", ExtentShelf::new, x -> x.add(2, 2), new Writes().table(2, 0, table));
    }

    private static void promise3Remove() {
        Supplier<ExtentShelf> shelf = () -> {
            ExtentShelf x = Shelves.with(4, 4, 4);
            x.make(0, 1, 1);
            return x;
        };
        TableWords table = new TableWords(5, 4, 0, 4).volume(0, 0, 1, 0);
        atEveryCut("remove(1)", shelf, x -> x.remove(1), new Writes().table(0, 0, table).table(2, 0, table));
    }

    private static void promise4Drop() {
        Supplier<ExtentShelf> shelf = () -> {
            ExtentShelf x = Shelves.with(4, 4, 4);
            x.make(2, 1, 2);
            fill(x, 0, 10);
            Shelves.takeOut(x, 1);
            return x;
        };
        TableWords table = new TableWords(6, 4, 0, 4).volume(0, 2, 1, 0, -1, 16, 1);
        atEveryCut("drop(1)", shelf, x -> x.drop(1), new Writes().table(0, 0, table).table(2, 0, table));
    }

    private static void promise5Make() {
        Supplier<ExtentShelf> shelf = () -> {
            ExtentShelf x = Shelves.with(4, 4);
            x.make(0, 1, 5);
            fill(x, 0, 10);
            x.delete(0);
            return x;
        };
        TableWords table = new TableWords(5, 4, 4).volume(0, 2, 1, 0, 8, 1, 9);
        Writes writes = new Writes().extent(0, 0, 0, 0, 0).extent(8, 0, 0, 0, 0).extent(1, 0, 0, 0, 0)
                .extent(9, 0, 0, 0, 0).table(0, 0, table).table(1, 1, table);
        atEveryCut("make(2, 1, 2)", shelf, x -> x.make(2, 1, 2), writes);
    }

    private static void promise6GrowStriped() {
        Supplier<ExtentShelf> shelf = () -> {
            ExtentShelf x = Shelves.with(4, 4);
            x.make(1, 2, 4);
            fill(x, 0, 10);
            x.shrink(0, 2);
            return x;
        };
        TableWords table = new TableWords(5, 4, 4).volume(0, 1, 2, 0, 8, 1, 9);
        Writes writes = new Writes().extent(1, 0, 0, 0, 0).extent(9, 0, 0, 0, 0).table(0, 0, table)
                .table(1, 1, table);
        atEveryCut("grow(0, 2)", shelf, x -> x.grow(0, 2), writes);
    }

    private static void promise6GrowTwinned() {
        Supplier<ExtentShelf> shelf = () -> {
            ExtentShelf x = Shelves.with(2, 2);
            x.make(2, 1, 2);
            fill(x, 0, 10);
            x.shrink(0, 1);
            return x;
        };
        TableWords table = new TableWords(5, 2, 2).volume(0, 2, 1, 0, 8, 1, 9);
        Writes writes = new Writes().extent(1, 0, 0, 0, 0).extent(9, 0, 0, 0, 0).table(0, 0, table)
                .table(1, 1, table);
        atEveryCut("grow(0, 1)", shelf, x -> x.grow(0, 1), writes);
    }

    private static void promise7Shrink() {
        Supplier<ExtentShelf> shelf = () -> {
            ExtentShelf x = Shelves.with(4, 4);
            x.make(0, 1, 3);
            fill(x, 0, 10);
            return x;
        };
        TableWords table = new TableWords(4, 4, 4).volume(0, 0, 1, 0);
        atEveryCut("shrink(0, 1)", shelf, x -> x.shrink(0, 1), new Writes().table(0, 1, table).table(1, 0, table));
    }

    private static void promise8Delete() {
        Supplier<ExtentShelf> shelf = () -> {
            ExtentShelf x = Shelves.with(4, 4);
            x.make(2, 1, 1);
            x.make(0, 1, 1);
            fill(x, 0, 10);
            fill(x, 1, 20);
            return x;
        };
        TableWords table = new TableWords(5, 4, 4).volume(1, 0, 1, 1);
        atEveryCut("delete(0)", shelf, x -> x.delete(0), new Writes().table(0, 0, table).table(1, 1, table));
    }

    private static void promise9Mend() {
        Supplier<ExtentShelf> shelf = () -> {
            ExtentShelf x = Shelves.with(4, 4, 4);
            x.make(2, 1, 2);
            fill(x, 0, 10);
            Shelves.takeOut(x, 0);
            x.drop(0);
            return x;
        };
        Check.same("two legs are lost", Shelves.legs(shelf.get(), 0), "-1/8 16/-1 -1/-1 -1/-1 -1/-1");
        TableWords table = new TableWords(7, 0, 4, 4).volume(0, 2, 1, 17, 8, 16, 9);
        Writes writes = new Writes().extent(17, 10, 11, 12, 13).extent(9, 14, 15, 16, 17).table(1, 0, table)
                .table(2, 1, table);
        atEveryCut("mend(0)", shelf, x -> x.mend(0), writes);
    }

    private static ExtentShelf twins() {
        ExtentShelf x = Shelves.with(4, 4, 4);
        x.make(2, 1, 2);
        fill(x, 0, 10);
        Check.same("twins", Shelves.legs(x, 0), "0/8 16/1 -1/-1 -1/-1 -1/-1");
        return x;
    }

    private static void promise10Write() {
        atEveryCut("write(0, 5, -9)", CutsTest::twins, x -> x.write(0, 5, -9),
                new Writes().word(16, 1, -9).word(1, 1, -9), 1);
    }

    private static ExtentShelf copying(int d, int steps) {
        ExtentShelf x = twins();
        x.empty(d);
        for (int i = 0; i < steps; i++) {
            x.step();
        }
        return x;
    }

    private static void promise10WriteWithItsCopy() {
        atEveryCut("write(0, 1, -9)", () -> copying(0, 2), x -> x.write(0, 1, -9),
                new Writes().word(0, 1, -9).word(17, 1, -9).word(8, 1, -9), 1);
        atEveryCut("write(0, 0, -9)", () -> copying(1, 3), x -> x.write(0, 0, -9),
                new Writes().word(0, 0, -9).word(8, 0, -9).word(17, 0, -9), 1);
    }

    private static void promise10WriteOfAWordNotCopiedYet() {
        atEveryCut("write(0, 2, -9)", () -> copying(0, 2), x -> x.write(0, 2, -9),
                new Writes().word(0, 2, -9).word(8, 2, -9), 1);
        atEveryCut("write(0, 0, -9)", () -> copying(0, 0), x -> x.write(0, 0, -9),
                new Writes().word(0, 0, -9).word(8, 0, -9), 1);
        atEveryCut("write(0, 4, -9) of another element", () -> copying(0, 2), x -> x.write(0, 4, -9),
                new Writes().word(16, 0, -9).word(1, 0, -9), 1);
    }

    private static void promise10WriteBesideAnAbsentLeg() {
        Supplier<ExtentShelf> shelf = () -> {
            ExtentShelf x = twins();
            Shelves.takeOut(x, 0);
            return x;
        };
        TableWords table = new TableWords(6, 4, 4, 4).volume(0, 2, 1, -1, 8, 16, 1);
        atEveryCut("write(0, 3, -9)", shelf, x -> x.write(0, 3, -9),
                new Writes().table(1, 1, table).table(2, 0, table).word(8, 3, -9), 2 * 51 + 1);
        TableWords other = new TableWords(6, 4, 4, 4).volume(0, 2, 1, 0, 8, 16, -1);
        atEveryCut("write(0, 4, -9)", shelf, x -> x.write(0, 4, -9),
                new Writes().table(1, 1, other).table(2, 0, other).word(16, 0, -9), 2 * 51 + 1);
    }

    private static void promise13StepOfTheFirstWord() {
        atEveryCut("the first step()", () -> copying(0, 0), ExtentShelf::step, new Writes().word(17, 0, 10));
        atEveryCut("the third step()", () -> copying(0, 2), ExtentShelf::step, new Writes().word(17, 2, 12));
    }

    private static void promise13StepOfTheLastWord() {
        TableWords table = new TableWords(5, 4, 4, 4).volume(0, 2, 1, 17, 8, 16, 1);
        Writes writes = new Writes().word(17, 3, 13).table(0, 0, table).table(1, 1, table).table(2, 0, table);
        atEveryCut("the fourth step()", () -> copying(0, 3), ExtentShelf::step, writes);
    }

    /** With no word left each of these answers, and the power stays on. */
    private static void promise18CallsThatWriteNothing() {
        ExtentShelf x = twins();
        x.cut(0);
        Check.due("read(0, 0)", () -> x.read(0, 0), 10);
        Check.due("volume(0, 3)", () -> x.volume(0, 3), 8);
        Check.due("where(0, 0, 0)", () -> x.where(0, 0, 0), 0);
        Check.due("free(0)", () -> x.free(0), 2);
        Check.due("look(0, 2, 0)", () -> x.look(0, 2, 0), 10);
        Check.due("mend(0): nothing is done", () -> x.mend(0), 0);
        Check.due("empty(0)", () -> x.empty(0), 2);
        Check.due("moving()", x::moving, 0);
        Check.due("number()", x::number, 4);
        Check.badState("step() writes a word", x::step);

        ExtentShelf noLegs = Shelves.with(4, 4);
        noLegs.empty(1);
        noLegs.cut(0);
        Check.due("step() without a leg", noLegs::step, 0);
        ExtentShelf noRoom = Shelves.with(4);
        noRoom.make(0, 1, 1);
        noRoom.empty(0);
        noRoom.cut(0);
        Check.due("step() without room", noRoom::step, -1);
        Check.due("number() after it", noRoom::number, 2);
    }

    private static void promise21StartIsNotCut() {
        ExtentShelf x = twins();
        x.cut(1);
        Check.badState("write(0, 0, -9) to one leg", () -> x.write(0, 0, -9));
        x.start();
        Check.due("the twin is written at start()", () -> x.look(1, 2, 0), -9);
        Shelves.takeOut(x, 1);
        x.write(0, 0, 5);
        x.cut(0);
        x.off();
        x.plug(1, true);
        Check.due("start() writes a table, though a cut was set", x::start, 6);
        Check.due("to disk 1", () -> Math.max(x.look(1, 0, 50), x.look(1, 1, 50)), 6);
        Check.due("and no cut is set after it", () -> x.write(0, 4, 7), 2);
    }
}

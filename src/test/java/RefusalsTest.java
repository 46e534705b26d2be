import java.util.function.BiConsumer;
import java.util.function.Consumer;
import java.util.function.Supplier;

/**
 * Every call that is refused, promise by promise: what it throws, of several exceptions the one that is named first,
 * and that it changes nothing, not even what shows itself later only.
 */
public final class RefusalsTest {
    private static final String STATE = "IllegalStateException";
    private static final String ELEMENT = "NoSuchElementException";
    private static final String INDEX = "IndexOutOfBoundsException";
    private static final String ARGUMENT = "IllegalArgumentException";
    private static final String UNSUPPORTED = "UnsupportedOperationException";
    private static final int LEAST = Integer.MIN_VALUE;
    private static final int GREATEST = Integer.MAX_VALUE;

    public static void main(String[] args) {
        theShelvesAreAsTheTestsTakeThem();
        promise2Add();
        promise3Remove();
        promise4Drop();
        promise5MakeArguments();
        promise5MakeUnsupported();
        promise6Grow();
        promise7Shrink();
        promise8Delete();
        promise9Mend();
        promise10Write();
        promise11Read();
        promise12Empty();
        promise13Step();
        promise15Volume();
        promise16Where();
        promise17Free();
        promise18Cut();
        promise20Plug();
        promise21Start();
        promise23Look();
        withoutPowerItIsAlwaysThat();
        withoutPowerTheseAnswer();
        aRefusedCallIsNotCut();
        Check.end();
    }

    // Shelves on which calls are refused; a cut is set, so that it is seen when one is spent or lost.

    /** Disk 3 is not listed; volumes 0 linear, 1 striped, 2 twinned; a leg is being copied from disk 0 to disk 1. */
    private static ExtentShelf busy() {
        ExtentShelf x = Shelves.with(4, 4, 3);
        x.make(0, 1, 2);
        x.make(1, 2, 2);
        x.make(2, 1, 1);
        for (int w = 0; w < 4; w++) {
            x.write(0, w, 10 + w);
            x.write(1, w, 20 + w);
            x.write(2, w, 30 + w);
        }
        x.empty(0);
        x.step();
        x.step();
        x.cut(60);
        return x;
    }

    private static ExtentShelf powerless() {
        ExtentShelf x = busy();
        x.off();
        x.plug(2, false);
        return x;
    }

    private static ExtentShelf oneDisk() {
        ExtentShelf x = Shelves.with(3);
        x.cut(20);
        return x;
    }

    private static ExtentShelf fourVolumes() {
        ExtentShelf x = Shelves.with(8, 8);
        for (int v = 0; v < 4; v++) {
            x.make(0, 1, 1);
        }
        x.cut(20);
        return x;
    }

    /** Room is left for one leg, on disk 1. */
    private static ExtentShelf almostFull() {
        ExtentShelf x = Shelves.with(4, 2);
        x.make(0, 1, 3);
        x.make(1, 2, 2);
        x.cut(20);
        return x;
    }

    /** Disk 1 is listed and absent; volumes 0 twinned, 1 linear, 2 striped. */
    private static ExtentShelf lacking() {
        ExtentShelf x = Shelves.with(4, 4, 4);
        x.make(2, 1, 2);
        x.make(0, 1, 2);
        x.make(1, 2, 2);
        Shelves.takeOut(x, 1);
        x.cut(20);
        return x;
    }

    /** Disk 3 is absent, but not listed. */
    private static ExtentShelf withoutDisk3() {
        ExtentShelf x = Shelves.with(4, 4);
        x.make(0, 1, 2);
        Shelves.takeOut(x, 3);
        x.cut(20);
        return x;
    }

    /** Three twins have lost a leg, and there is room for two. */
    private static ExtentShelf lost() {
        ExtentShelf x = Shelves.with(4, 8, 2);
        x.make(2, 1, 3);
        Shelves.takeOut(x, 0);
        x.drop(0);
        x.cut(20);
        return x;
    }

    private static void theShelvesAreAsTheTestsTakeThem() {
        ExtentShelf busy = busy();
        Check.same("busy: volume 0", Shelves.legs(busy, 0), "0/-1 8/-1 -1/-1 -1/-1 -1/-1");
        Check.same("busy: volume 1", Shelves.legs(busy, 1), "1/-1 9/-1 -1/-1 -1/-1 -1/-1");
        Check.same("busy: volume 2", Shelves.legs(busy, 2), "16/2 -1/-1 -1/-1 -1/-1 -1/-1");
        Check.same("busy: disk 1 is copied to", Shelves.words(busy, 1, 2),
                "0 0 0 0 21 23 0 0 10 11 0 0 " + "0 ".repeat(20));
        Check.same("almost full: free", almostFull().free(0) + " " + almostFull().free(1), "0 1");
        Check.same("lacking: volume 0", Shelves.legs(lacking(), 0), "0/8 16/1 -1/-1 -1/-1 -1/-1");
        Check.same("lacking: volume 1", Shelves.legs(lacking(), 1), "9/-1 17/-1 -1/-1 -1/-1 -1/-1");
        Check.same("lost: volume 0", Shelves.legs(lost(), 0), "8/-1 9/-1 10/-1 -1/-1 -1/-1");
        Check.due("lost: free(2)", () -> lost().free(2), 2);
        Check.same("both lost: volume 0", Shelves.legs(bothLegsLost(), 0), "0/-1 -1/-1 -1/-1 -1/-1 -1/-1");
        Check.same("both lost: volume 1", Shelves.legs(bothLegsLost(), 1), "1/9 -1/-1 -1/-1 -1/-1 -1/-1");
    }

    /** The call throws just that, and the shelf goes on as another one on which it was not called. */
    private static void refused(Supplier<ExtentShelf> shelf, String call, Consumer<ExtentShelf> action, String due) {
        ExtentShelf asked = shelf.get();
        Check.same(call, Check.outcome(() -> action.accept(asked)), due);
        Check.same("the shelf after " + call, Shelves.story(asked), Shelves.story(shelf.get()));
    }

    private static void promise2Add() {
        refused(RefusalsTest::busy, "add(-1, 4): no such disk", x -> x.add(-1, 4), ARGUMENT);
        refused(RefusalsTest::busy, "add(4, 4): no such disk", x -> x.add(4, 4), ARGUMENT);
        refused(RefusalsTest::busy, "add(least, 4)", x -> x.add(LEAST, 4), ARGUMENT);
        refused(RefusalsTest::busy, "add(greatest, 4)", x -> x.add(GREATEST, 4), ARGUMENT);
        refused(RefusalsTest::busy, "add(3, 1): too few extents", x -> x.add(3, 1), ARGUMENT);
        refused(RefusalsTest::busy, "add(3, 0)", x -> x.add(3, 0), ARGUMENT);
        refused(RefusalsTest::busy, "add(3, -4)", x -> x.add(3, -4), ARGUMENT);
        refused(RefusalsTest::busy, "add(3, 9): too many extents", x -> x.add(3, 9), ARGUMENT);
        refused(RefusalsTest::busy, "add(3, least)", x -> x.add(3, LEAST), ARGUMENT);
        refused(RefusalsTest::busy, "add(3, greatest)", x -> x.add(3, GREATEST), ARGUMENT);
        refused(RefusalsTest::busy, "add(0, 4): it is listed", x -> x.add(0, 4), UNSUPPORTED);
        refused(RefusalsTest::busy, "add(2, 8): it is listed with others", x -> x.add(2, 8), UNSUPPORTED);
        refused(RefusalsTest::busy, "add(0, 9): listed, but the argument goes first", x -> x.add(0, 9), ARGUMENT);
        refused(RefusalsTest::withoutDisk3, "add(3, 4): it is absent", x -> x.add(3, 4), UNSUPPORTED);
        refused(RefusalsTest::withoutDisk3, "add(3, 1): absent, argument first", x -> x.add(3, 1), ARGUMENT);
        refused(RefusalsTest::lacking, "add(3, 4): a listed one is absent", x -> x.add(3, 4), UNSUPPORTED);
        refused(RefusalsTest::lacking, "add(1, 4): it is listed and absent", x -> x.add(1, 4), UNSUPPORTED);
        refused(RefusalsTest::lacking, "add(3, 9): the argument goes first", x -> x.add(3, 9), ARGUMENT);
        refused(RefusalsTest::powerless, "add(4, 9) without power", x -> x.add(4, 9), STATE);
        refused(RefusalsTest::powerless, "add(3, 4) without power", x -> x.add(3, 4), STATE);
    }

    private static void promise3Remove() {
        refused(RefusalsTest::busy, "remove(-1)", x -> x.remove(-1), ARGUMENT);
        refused(RefusalsTest::busy, "remove(4)", x -> x.remove(4), ARGUMENT);
        refused(RefusalsTest::busy, "remove(least)", x -> x.remove(LEAST), ARGUMENT);
        refused(RefusalsTest::busy, "remove(greatest)", x -> x.remove(GREATEST), ARGUMENT);
        refused(RefusalsTest::busy, "remove(3): it is not listed", x -> x.remove(3), UNSUPPORTED);
        refused(RefusalsTest::busy, "remove(0): legs are on it", x -> x.remove(0), UNSUPPORTED);
        refused(RefusalsTest::busy, "remove(2): one leg is on it", x -> x.remove(2), UNSUPPORTED);
        refused(RefusalsTest::copyingToAnEmptyDisk, "remove(1): a leg is being copied to it", x -> x.remove(1),
                UNSUPPORTED);
        refused(RefusalsTest::oneDisk, "remove(0): it is the only one", x -> x.remove(0), UNSUPPORTED);
        refused(RefusalsTest::lacking, "remove(1): it is absent", x -> x.remove(1), UNSUPPORTED);
        refused(RefusalsTest::lackingWithAnEmptyDisk, "remove(2): a listed one is absent", x -> x.remove(2),
                UNSUPPORTED);
        refused(RefusalsTest::lackingWithAnEmptyDisk, "remove(4): the argument goes first", x -> x.remove(4),
                ARGUMENT);
        refused(ExtentShelf::new, "remove(0) when nothing is listed", x -> x.remove(0), UNSUPPORTED);
        refused(RefusalsTest::powerless, "remove(4) without power", x -> x.remove(4), STATE);
        refused(RefusalsTest::powerless, "remove(1) without power", x -> x.remove(1), STATE);
    }

    private static ExtentShelf copyingToAnEmptyDisk() {
        ExtentShelf x = Shelves.with(4, 3);
        x.make(0, 1, 1);
        x.empty(0);
        x.step();
        x.cut(60);
        return x;
    }

    private static ExtentShelf lackingWithAnEmptyDisk() {
        ExtentShelf x = Shelves.with(4, 4, 2);
        x.make(0, 1, 1);
        Shelves.takeOut(x, 1);
        x.cut(20);
        return x;
    }

    private static void promise4Drop() {
        refused(RefusalsTest::busy, "drop(-1)", x -> x.drop(-1), ARGUMENT);
        refused(RefusalsTest::busy, "drop(4)", x -> x.drop(4), ARGUMENT);
        refused(RefusalsTest::busy, "drop(least)", x -> x.drop(LEAST), ARGUMENT);
        refused(RefusalsTest::busy, "drop(greatest)", x -> x.drop(GREATEST), ARGUMENT);
        refused(RefusalsTest::busy, "drop(3): present and not listed", x -> x.drop(3), UNSUPPORTED);
        refused(RefusalsTest::busy, "drop(0): it is present", x -> x.drop(0), UNSUPPORTED);
        refused(RefusalsTest::withoutDisk3, "drop(3): absent, but not listed", x -> x.drop(3), UNSUPPORTED);
        refused(RefusalsTest::lacking, "drop(0): present, while another one is absent", x -> x.drop(0), UNSUPPORTED);
        refused(RefusalsTest::lacking, "drop(4): no such disk", x -> x.drop(4), ARGUMENT);
        refused(RefusalsTest::allAbsent, "drop(0): no disk is there, so none is listed", x -> x.drop(0), UNSUPPORTED);
        refused(RefusalsTest::powerless, "drop(4) without power", x -> x.drop(4), STATE);
        refused(RefusalsTest::powerless, "drop(2) without power", x -> x.drop(2), STATE);
    }

    private static ExtentShelf allAbsent() {
        ExtentShelf x = Shelves.with(4, 4);
        x.off();
        for (int d = 0; d < 4; d++) {
            x.plug(d, false);
        }
        x.start();
        return x;
    }

    private static void promise5MakeArguments() {
        int[][] bad = {
            {-1, 1, 1}, {3, 1, 1}, {LEAST, 1, 1}, {GREATEST, 1, 1},
            {0, 0, 1}, {0, 2, 2}, {0, -1, 1}, {0, LEAST, 1}, {0, GREATEST, 1},
            {2, 0, 1}, {2, 2, 2}, {2, 3, 3},
            {1, 1, 1}, {1, 4, 4}, {1, 0, 2}, {1, -2, 2}, {1, LEAST, 2}, {1, GREATEST, 2},
            {0, 1, 0}, {0, 1, -1}, {0, 1, 6}, {0, 1, LEAST}, {0, 1, GREATEST},
            {2, 1, 0}, {2, 1, -1}, {2, 1, 6}, {2, 1, LEAST}, {2, 1, GREATEST},
            {1, 2, 0}, {1, 2, 1}, {1, 2, 3}, {1, 2, 5}, {1, 2, 6}, {1, 2, -2}, {1, 2, LEAST},
            {1, 3, 0}, {1, 3, 1}, {1, 3, 2}, {1, 3, 4}, {1, 3, 5}, {1, 3, 6}, {1, 3, -3}, {1, 3, GREATEST},
        };
        for (int[] b : bad) {
            String call = "make(" + b[0] + ", " + b[1] + ", " + b[2] + ")";
            refused(RefusalsTest::busy, call, x -> x.make(b[0], b[1], b[2]), ARGUMENT);
            refused(RefusalsTest::lacking, call + " while a disk is absent", x -> x.make(b[0], b[1], b[2]), ARGUMENT);
        }
        refused(RefusalsTest::fourVolumes, "make(0, 1, 6) beside four", x -> x.make(0, 1, 6), ARGUMENT);
        refused(RefusalsTest::almostFull, "make(0, 1, 6) without room", x -> x.make(0, 1, 6), ARGUMENT);
    }

    private static void promise5MakeUnsupported() {
        refused(RefusalsTest::fourVolumes, "make(0, 1, 1): there are four", x -> x.make(0, 1, 1), UNSUPPORTED);
        refused(ExtentShelf::new, "make(0, 1, 1): no disk is listed", x -> x.make(0, 1, 1), UNSUPPORTED);
        refused(RefusalsTest::almostFull, "make(0, 1, 2): room for one", x -> x.make(0, 1, 2), UNSUPPORTED);
        refused(RefusalsTest::almostFull, "make(2, 1, 1): room on one disk", x -> x.make(2, 1, 1), UNSUPPORTED);
        refused(RefusalsTest::almostFull, "make(1, 2, 2): room on one disk", x -> x.make(1, 2, 2), UNSUPPORTED);
        refused(RefusalsTest::oneDisk, "make(2, 1, 1) on one disk", x -> x.make(2, 1, 1), UNSUPPORTED);
        refused(RefusalsTest::withoutDisk3, "make(1, 3, 3) on two disks", x -> x.make(1, 3, 3), UNSUPPORTED);
        refused(RefusalsTest::busy, "make(0, 1, 5): what is copied to is not free", x -> x.make(0, 1, 5), UNSUPPORTED);
        refused(RefusalsTest::lacking, "make(0, 1, 1): a disk is absent", x -> x.make(0, 1, 1), UNSUPPORTED);
        refused(RefusalsTest::powerless, "make(3, 9, 9) without power", x -> x.make(3, 9, 9), STATE);
        refused(RefusalsTest::powerless, "make(0, 1, 1) without power", x -> x.make(0, 1, 1), STATE);
    }

    private static void promise6Grow() {
        noSuchVolume("grow", (x, v) -> x.grow(v, 1));
        noSuchVolume("grow by 0", (x, v) -> x.grow(v, 0));
        refused(RefusalsTest::busy, "grow(0, 0): below 1", x -> x.grow(0, 0), ARGUMENT);
        refused(RefusalsTest::busy, "grow(0, -1)", x -> x.grow(0, -1), ARGUMENT);
        refused(RefusalsTest::busy, "grow(0, least)", x -> x.grow(0, LEAST), ARGUMENT);
        refused(RefusalsTest::busy, "grow(0, 4): six", x -> x.grow(0, 4), ARGUMENT);
        refused(RefusalsTest::busy, "grow(0, greatest)", x -> x.grow(0, GREATEST), ARGUMENT);
        refused(RefusalsTest::busy, "grow(1, 1): three in two columns", x -> x.grow(1, 1), ARGUMENT);
        refused(RefusalsTest::busy, "grow(1, 3): five in two columns", x -> x.grow(1, 3), ARGUMENT);
        refused(RefusalsTest::busy, "grow(1, 4): six in two columns", x -> x.grow(1, 4), ARGUMENT);
        refused(RefusalsTest::busy, "grow(1, greatest - 1): even, and the sum wraps", x -> x.grow(1, GREATEST - 1),
                ARGUMENT);
        for (int n = 1; n <= 3; n++) {
            int more = n;
            refused(RefusalsTest::threeColumns, "grow(0, " + n + ") of three columns", x -> x.grow(0, more), ARGUMENT);
        }
        refused(RefusalsTest::almostFull, "grow(0, 2): room for one", x -> x.grow(0, 2), UNSUPPORTED);
        refused(RefusalsTest::almostFull, "grow(1, 2): room on one disk", x -> x.grow(1, 2), UNSUPPORTED);
        refused(RefusalsTest::almostFull, "grow(0, 3): argument before room", x -> x.grow(0, 3), ARGUMENT);
        refused(RefusalsTest::busy, "grow(2, 3): room for four legs of six", x -> x.grow(2, 3), UNSUPPORTED);
        refused(RefusalsTest::lacking, "grow(1, 1): a disk is absent", x -> x.grow(1, 1), UNSUPPORTED);
        refused(RefusalsTest::lacking, "grow(1, 0): the argument goes first", x -> x.grow(1, 0), ARGUMENT);
        refused(RefusalsTest::powerless, "grow(9, 0) without power", x -> x.grow(9, 0), STATE);
        refused(RefusalsTest::powerless, "grow(0, 1) without power", x -> x.grow(0, 1), STATE);
    }

    private static ExtentShelf threeColumns() {
        ExtentShelf x = Shelves.with(4, 4, 4);
        x.make(1, 3, 3);
        x.cut(20);
        return x;
    }

    /** A call of a volume that there is not throws that, whatever its other arguments are. */
    private static void noSuchVolume(String name, BiConsumer<ExtentShelf, Integer> call) {
        for (int v : new int[] {-1, 3, 4, LEAST, GREATEST}) {
            refused(RefusalsTest::busy, name + " of volume " + v, x -> call.accept(x, v), ELEMENT);
            refused(RefusalsTest::lacking, name + " of volume " + v + ", a disk is absent", x -> call.accept(x, v),
                    ELEMENT);
        }
        for (int v = 0; v < 4; v++) {
            int volume = v;
            refused(ExtentShelf::new, name + " of volume " + v + " of a new shelf", x -> call.accept(x, volume),
                    ELEMENT);
        }
    }

    private static void promise7Shrink() {
        noSuchVolume("shrink", (x, v) -> x.shrink(v, 1));
        noSuchVolume("shrink to 0", (x, v) -> x.shrink(v, 0));
        refused(RefusalsTest::busy, "shrink(0, 0): below 1", x -> x.shrink(0, 0), ARGUMENT);
        refused(RefusalsTest::busy, "shrink(0, -1)", x -> x.shrink(0, -1), ARGUMENT);
        refused(RefusalsTest::busy, "shrink(0, least)", x -> x.shrink(0, LEAST), ARGUMENT);
        refused(RefusalsTest::busy, "shrink(0, 2): as many as there are", x -> x.shrink(0, 2), ARGUMENT);
        refused(RefusalsTest::busy, "shrink(0, 3): more than there are", x -> x.shrink(0, 3), ARGUMENT);
        refused(RefusalsTest::busy, "shrink(0, greatest)", x -> x.shrink(0, GREATEST), ARGUMENT);
        refused(RefusalsTest::busy, "shrink(1, 1): one in two columns", x -> x.shrink(1, 1), ARGUMENT);
        refused(RefusalsTest::busy, "shrink(1, 0): a multiple, but below 1", x -> x.shrink(1, 0), ARGUMENT);
        refused(RefusalsTest::busy, "shrink(1, -2): a multiple, but below 1", x -> x.shrink(1, -2), ARGUMENT);
        refused(RefusalsTest::busy, "shrink(2, 1): as many as there are", x -> x.shrink(2, 1), ARGUMENT);
        refused(RefusalsTest::twoGroups, "shrink(0, 3): three in two columns", x -> x.shrink(0, 3), ARGUMENT);
        refused(RefusalsTest::twoGroups, "shrink(0, 4): as many as there are", x -> x.shrink(0, 4), ARGUMENT);
        for (int n = 0; n <= 3; n++) {
            int left = n;
            refused(RefusalsTest::threeColumns, "shrink(0, " + n + ") of three columns", x -> x.shrink(0, left),
                    ARGUMENT);
        }
        refused(RefusalsTest::lacking, "shrink(1, 1): a disk is absent", x -> x.shrink(1, 1), UNSUPPORTED);
        refused(RefusalsTest::lacking, "shrink(1, 2): the argument goes first", x -> x.shrink(1, 2), ARGUMENT);
        refused(RefusalsTest::powerless, "shrink(9, 0) without power", x -> x.shrink(9, 0), STATE);
        refused(RefusalsTest::powerless, "shrink(0, 1) without power", x -> x.shrink(0, 1), STATE);
    }

    private static ExtentShelf twoGroups() {
        ExtentShelf x = Shelves.with(4, 4);
        x.make(1, 2, 4);
        x.cut(20);
        return x;
    }

    private static void promise8Delete() {
        noSuchVolume("delete", (x, v) -> x.delete(v));
        for (int v = 0; v < 3; v++) {
            int volume = v;
            refused(RefusalsTest::lacking, "delete(" + v + "): a disk is absent", x -> x.delete(volume), UNSUPPORTED);
            refused(RefusalsTest::powerless, "delete(" + v + ") without power", x -> x.delete(volume), STATE);
        }
        refused(RefusalsTest::powerless, "delete(9) without power", x -> x.delete(9), STATE);
    }

    private static void promise9Mend() {
        noSuchVolume("mend", (x, v) -> x.mend(v));
        refused(RefusalsTest::busy, "mend(0): it is linear", x -> x.mend(0), ARGUMENT);
        refused(RefusalsTest::busy, "mend(1): it is striped", x -> x.mend(1), ARGUMENT);
        refused(RefusalsTest::lost, "mend(0): room for two of three", x -> x.mend(0), UNSUPPORTED);
        refused(RefusalsTest::lacking, "mend(0): a disk is absent", x -> x.mend(0), UNSUPPORTED);
        refused(RefusalsTest::lacking, "mend(1): the argument goes first", x -> x.mend(1), ARGUMENT);
        refused(RefusalsTest::powerless, "mend(9) without power", x -> x.mend(9), STATE);
        refused(RefusalsTest::powerless, "mend(1) without power", x -> x.mend(1), STATE);
        refused(RefusalsTest::powerless, "mend(2) without power", x -> x.mend(2), STATE);
    }

    private static void promise10Write() {
        noSuchVolume("write", (x, v) -> x.write(v, 0, 5));
        noSuchVolume("write of word -1", (x, v) -> x.write(v, -1, 5));
        for (int w : new int[] {-1, 8, 20, LEAST, GREATEST}) {
            refused(RefusalsTest::busy, "write(0, " + w + ", 5)", x -> x.write(0, w, 5), INDEX);
            refused(RefusalsTest::busy, "write(1, " + w + ", 5)", x -> x.write(1, w, 5), INDEX);
            refused(RefusalsTest::lacking, "write(1, " + w + ", 5): a disk is absent", x -> x.write(1, w, 5), INDEX);
        }
        refused(RefusalsTest::busy, "write(2, 4, 5)", x -> x.write(2, 4, 5), INDEX);
        for (int w = 0; w < 4; w++) {
            int word = w;
            refused(RefusalsTest::lacking, "write(1, " + w + ", 5): its only leg is absent", x -> x.write(1, word, 5),
                    UNSUPPORTED);
            refused(RefusalsTest::bothLegsLost, "write(0, " + w + ", 5): one leg is gone, one absent",
                    x -> x.write(0, word, 5), UNSUPPORTED);
            refused(RefusalsTest::bothLegsLost, "write(1, " + w + ", 5): both are absent", x -> x.write(1, word, 5),
                    UNSUPPORTED);
        }
        refused(RefusalsTest::powerless, "write(9, -1, 5) without power", x -> x.write(9, -1, 5), STATE);
        refused(RefusalsTest::powerless, "write(0, 0, 5) without power", x -> x.write(0, 0, 5), STATE);
    }

    /** Of volume 0 one leg is gone and the other one on an absent disk; of volume 1 both are on absent disks. */
    private static ExtentShelf bothLegsLost() {
        ExtentShelf x = Shelves.with(4, 4, 3, 2);
        x.make(2, 1, 1);
        x.make(2, 1, 1);
        Shelves.takeOut(x, 1);
        x.write(0, 0, 3);
        Shelves.takeOut(x, 0);
        x.cut(20);
        return x;
    }

    private static void promise11Read() {
        noSuchVolume("read", (x, v) -> x.read(v, 0));
        noSuchVolume("read of word -1", (x, v) -> x.read(v, -1));
        for (int w : new int[] {-1, 8, 20, LEAST, GREATEST}) {
            refused(RefusalsTest::busy, "read(0, " + w + ")", x -> x.read(0, w), INDEX);
            refused(RefusalsTest::busy, "read(1, " + w + ")", x -> x.read(1, w), INDEX);
            refused(RefusalsTest::lacking, "read(1, " + w + "): a disk is absent", x -> x.read(1, w), INDEX);
        }
        refused(RefusalsTest::busy, "read(2, 4)", x -> x.read(2, 4), INDEX);
        for (int w = 0; w < 4; w++) {
            int word = w;
            refused(RefusalsTest::lacking, "read(1, " + w + "): its only leg is absent", x -> x.read(1, word),
                    UNSUPPORTED);
            refused(RefusalsTest::bothLegsLost, "read(0, " + w + "): one leg is gone, one absent",
                    x -> x.read(0, word), UNSUPPORTED);
            refused(RefusalsTest::bothLegsLost, "read(1, " + w + "): both are absent", x -> x.read(1, word),
                    UNSUPPORTED);
        }
        refused(RefusalsTest::powerless, "read(9, -1) without power", x -> x.read(9, -1), STATE);
        refused(RefusalsTest::powerless, "read(0, 0) without power", x -> x.read(0, 0), STATE);
    }

    private static void promise12Empty() {
        for (int d : new int[] {-1, 4, LEAST, GREATEST}) {
            refused(RefusalsTest::twoGroups, "empty(" + d + ")", x -> x.empty(d), ARGUMENT);
            refused(RefusalsTest::busy, "empty(" + d + ") while a move is under way", x -> x.empty(d), ARGUMENT);
            refused(RefusalsTest::lacking, "empty(" + d + ") while a disk is absent", x -> x.empty(d), ARGUMENT);
        }
        refused(RefusalsTest::twoGroups, "empty(2): it is not listed", x -> x.empty(2), UNSUPPORTED);
        refused(RefusalsTest::busy, "empty(1): a move is under way", x -> x.empty(1), UNSUPPORTED);
        refused(RefusalsTest::busy, "empty(0): its own move is", x -> x.empty(0), UNSUPPORTED);
        refused(RefusalsTest::busy, "empty(3): not listed, in a move", x -> x.empty(3), UNSUPPORTED);
        refused(RefusalsTest::lacking, "empty(0): another disk is absent", x -> x.empty(0), UNSUPPORTED);
        refused(RefusalsTest::lacking, "empty(1): it is absent", x -> x.empty(1), UNSUPPORTED);
        refused(RefusalsTest::powerless, "empty(4) without power", x -> x.empty(4), STATE);
        refused(RefusalsTest::powerless, "empty(0) without power", x -> x.empty(0), STATE);
    }

    private static void promise13Step() {
        refused(RefusalsTest::twoGroups, "step(): no move is under way", ExtentShelf::step, UNSUPPORTED);
        refused(ExtentShelf::new, "step() of a new shelf", ExtentShelf::step, UNSUPPORTED);
        refused(RefusalsTest::powerless, "step(): the move has ended with the power", ExtentShelf::step, STATE);
    }

    private static void promise15Volume() {
        noSuchVolume("volume", (x, v) -> x.volume(v, 0));
        noSuchVolume("volume with what = 4", (x, v) -> x.volume(v, 4));
        for (int what : new int[] {-1, 4, LEAST, GREATEST}) {
            refused(RefusalsTest::busy, "volume(0, " + what + ")", x -> x.volume(0, what), ARGUMENT);
            refused(RefusalsTest::powerless, "volume(9, " + what + ") without power", x -> x.volume(9, what), STATE);
        }
        refused(RefusalsTest::powerless, "volume(0, 0) without power", x -> x.volume(0, 0), STATE);
    }

    private static void promise16Where() {
        noSuchVolume("where", (x, v) -> x.where(v, 0, 0));
        noSuchVolume("where of no element", (x, v) -> x.where(v, -1, 2));
        refused(RefusalsTest::powerless, "where(9, -1, 2) without power", x -> x.where(9, -1, 2), STATE);
        refused(RefusalsTest::powerless, "where(0, 0, 0) without power", x -> x.where(0, 0, 0), STATE);
    }

    private static void promise17Free() {
        for (int d : new int[] {-1, 4, LEAST, GREATEST}) {
            refused(RefusalsTest::busy, "free(" + d + ")", x -> x.free(d), ARGUMENT);
            refused(RefusalsTest::powerless, "free(" + d + ") without power", x -> x.free(d), STATE);
        }
        refused(RefusalsTest::powerless, "free(0) without power", x -> x.free(0), STATE);
    }

    private static void promise18Cut() {
        for (int n : new int[] {-2, -3, LEAST}) {
            refused(RefusalsTest::busy, "cut(" + n + "): the one before stays", x -> x.cut(n), ARGUMENT);
            refused(RefusalsTest::threeVolumesWithoutACut, "cut(" + n + "): none is set", x -> x.cut(n), ARGUMENT);
            refused(RefusalsTest::powerless, "cut(" + n + ") without power", x -> x.cut(n), STATE);
        }
        refused(RefusalsTest::powerless, "cut(0) without power", x -> x.cut(0), STATE);
        refused(RefusalsTest::powerless, "cut(-1) without power", x -> x.cut(-1), STATE);
    }

    private static ExtentShelf threeVolumesWithoutACut() {
        ExtentShelf x = busy();
        x.cut(-1);
        return x;
    }

    private static void promise20Plug() {
        for (int d : new int[] {-1, 0, 3, 4, LEAST, GREATEST}) {
            refused(RefusalsTest::busy, "plug(" + d + ", false) with power", x -> x.plug(d, false), STATE);
            refused(RefusalsTest::lacking, "plug(" + d + ", true) with power", x -> x.plug(d, true), STATE);
        }
        refused(RefusalsTest::lacking, "plug(1, true): not even an absent one", x -> x.plug(1, true), STATE);
        for (int d : new int[] {-1, 4, LEAST, GREATEST}) {
            refused(RefusalsTest::powerless, "plug(" + d + ", false)", x -> x.plug(d, false), ARGUMENT);
            refused(RefusalsTest::powerless, "plug(" + d + ", true)", x -> x.plug(d, true), ARGUMENT);
        }
    }

    private static void promise21Start() {
        refused(ExtentShelf::new, "start() of a new shelf", ExtentShelf::start, STATE);
        refused(RefusalsTest::busy, "start(): the move and the cut stay", ExtentShelf::start, STATE);
        refused(RefusalsTest::lacking, "start() while a disk is absent", ExtentShelf::start, STATE);
    }

    private static void promise23Look() {
        int[][] bad = {
            {-1, 0, 0}, {4, 0, 0}, {LEAST, 0, 0}, {GREATEST, 0, 0},
            {0, -1, 0}, {0, 3, 0}, {0, LEAST, 0}, {0, GREATEST, 0},
            {0, 0, -1}, {0, 0, 51}, {0, 0, LEAST}, {0, 0, GREATEST},
            {0, 1, -1}, {0, 1, 51}, {3, 1, 51}, {3, 1, GREATEST},
            {0, 2, -1}, {0, 2, 32}, {0, 2, 50}, {3, 2, 32}, {0, 2, LEAST}, {3, 2, GREATEST},
            {4, 3, 51}, {-1, -1, -1},
        };
        for (int[] b : bad) {
            String call = "look(" + b[0] + ", " + b[1] + ", " + b[2] + ")";
            refused(RefusalsTest::busy, call, x -> x.look(b[0], b[1], b[2]), INDEX);
            refused(RefusalsTest::powerless, call + " without power", x -> x.look(b[0], b[1], b[2]), INDEX);
        }
    }

    private static void withoutPowerItIsAlwaysThat() {
        refused(RefusalsTest::powerless, "off() without power", ExtentShelf::off, STATE);
        refused(RefusalsTest::cutOff, "off() after a cut", ExtentShelf::off, STATE);
        refused(RefusalsTest::cutOff, "read(0, 0) after a cut", x -> x.read(0, 0), STATE);
        refused(RefusalsTest::cutOff, "step() after a cut", ExtentShelf::step, STATE);
        refused(RefusalsTest::cutOff, "cut(5) after a cut", x -> x.cut(5), STATE);
        refused(RefusalsTest::cutOff, "make(0, 1, 1) after a cut", x -> x.make(0, 1, 1), STATE);
    }

    private static ExtentShelf cutOff() {
        ExtentShelf x = busy();
        x.cut(7);
        Check.badState("delete(0) with seven words", () -> x.delete(0));
        return x;
    }

    private static void withoutPowerTheseAnswer() {
        ExtentShelf x = powerless();
        Check.due("moving() without power", x::moving, -1);
        Check.due("number() without power", x::number, -1);
        Check.due("look(0, 2, 0) without power", () -> x.look(0, 2, 0), 10);
        Check.due("look(2, 0, 0) of an absent disk", () -> x.look(2, 0, 0), 5);
        Check.dueBoolean("plug(2, false): it is out already", () -> x.plug(2, false), false);
        Check.dueBoolean("plug(2, true)", () -> x.plug(2, true), true);
        Check.due("start()", x::start, 6);
    }

    /** The power goes off only at a word that is to be written, and a refused call writes none. */
    private static void aRefusedCallIsNotCut() {
        notCut(RefusalsTest::busy, "add(0, 4)", x -> x.add(0, 4), UNSUPPORTED);
        notCut(RefusalsTest::busy, "remove(0)", x -> x.remove(0), UNSUPPORTED);
        notCut(RefusalsTest::lacking, "drop(0)", x -> x.drop(0), UNSUPPORTED);
        notCut(RefusalsTest::almostFull, "make(0, 1, 2): room for one", x -> x.make(0, 1, 2), UNSUPPORTED);
        notCut(RefusalsTest::almostFull, "grow(0, 2): room for one", x -> x.grow(0, 2), UNSUPPORTED);
        notCut(RefusalsTest::busy, "shrink(0, 2)", x -> x.shrink(0, 2), ARGUMENT);
        notCut(RefusalsTest::busy, "delete(3)", x -> x.delete(3), ELEMENT);
        notCut(RefusalsTest::lost, "mend(0): room for two", x -> x.mend(0), UNSUPPORTED);
        notCut(RefusalsTest::bothLegsLost, "write(0, 0, 5): no leg", x -> x.write(0, 0, 5), UNSUPPORTED);
        notCut(RefusalsTest::busy, "write(0, 8, 5): no word", x -> x.write(0, 8, 5), INDEX);
        notCut(RefusalsTest::twoGroups, "step(): no move", ExtentShelf::step, UNSUPPORTED);
    }

    private static void notCut(Supplier<ExtentShelf> shelf, String call, Consumer<ExtentShelf> action, String due) {
        ExtentShelf x = shelf.get();
        int number = x.number();
        x.cut(0);
        Check.same(call + " with no word left", Check.outcome(() -> action.accept(x)), due);
        Check.due("number() after it: the power is on", x::number, number);
    }
}

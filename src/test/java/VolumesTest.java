import java.util.function.Consumer;

/** Promises 5 to 9, 15 and 16: volumes that are made, grow, shrink, go, and are mended. */
public final class VolumesTest {
    public static void main(String[] args) {
        promise5MakeFindsRoom();
        promise5MakeKeepsGroupsApart();
        promise5MakeWritesZerosThenATable();
        promise5MakeArguments();
        promise5MakeRefuses();
        promise6Grow();
        promise6GrowRefuses();
        promise7Shrink();
        promise7ShrinkRefuses();
        promise8Delete();
        promise8DeleteRefuses();
        promise9Mend();
        promise9MendSeveral();
        promise9MendWithBothLegsGone();
        promise9MendInAMove();
        promise9MendRefuses();
        nothingStaysOfARefusedCall();
        promise15Volume();
        promise16Where();
        Check.end();
    }

    private static void promise5MakeFindsRoom() {
        ExtentShelf x = Shelves.with(3, 5, 5);
        Check.due("make(0, 1, 5)", () -> x.make(0, 1, 5), 0);
        Check.same("most free, then least", Shelves.legs(x, 0), "8/-1 16/-1 9/-1 17/-1 0/-1");
        Check.due("make(0, 1, 1)", () -> x.make(0, 1, 1), 1);
        Check.due("3, 3 and 2 are free", () -> x.where(1, 0, 0), 10);
        x.delete(0);
        Check.due("the least number that is not used", () -> x.make(0, 1, 1), 0);
        Check.due("the least free place", () -> x.where(0, 0, 0), 16);
        Check.due("make(0, 1, 1)", () -> x.make(0, 1, 1), 2);
        Check.due("places before a used one", () -> x.where(2, 0, 0), 8);
    }

    private static void promise5MakeKeepsGroupsApart() {
        ExtentShelf x = Shelves.with(8, 2, 2);
        Check.due("make(1, 3, 3)", () -> x.make(1, 3, 3), 0);
        Check.same("three columns", Shelves.legs(x, 0), "0/-1 8/-1 16/-1 -1/-1 -1/-1");
        Check.due("make(1, 2, 4)", () -> x.make(1, 2, 4), 1);
        Check.same("two columns", Shelves.legs(x, 1), "1/-1 9/-1 2/-1 17/-1 -1/-1");
        Check.unsupported("make(2, 1, 1): room on one disk only", () -> x.make(2, 1, 1));
        Check.unsupported("make(1, 2, 2)", () -> x.make(1, 2, 2));
        Check.due("make(0, 1, 5)", () -> x.make(0, 1, 5), 2);
        Check.unsupported("make(0, 1, 1): no room at all", () -> x.make(0, 1, 1));
        ExtentShelf y = Shelves.with(4, 4);
        Check.due("make(2, 1, 3)", () -> y.make(2, 1, 3), 0);
        Check.same("twins", Shelves.legs(y, 0), "0/8 1/9 2/10 -1/-1 -1/-1");
    }

    private static void promise5MakeWritesZerosThenATable() {
        ExtentShelf x = Shelves.with(2, 2);
        x.make(2, 1, 1);
        for (int w = 0; w < 4; w++) {
            x.write(0, w, w + 1);
        }
        x.delete(0);
        x.cut(5);
        Check.badState("make(2, 1, 1) after 5 words", () -> x.make(2, 1, 1));
        Check.same("leg 0 is 0", Shelves.words(x, 0, 2), "0 ".repeat(32));
        Check.same("one word of leg 1 is", Shelves.words(x, 1, 2), "0 2 3 4 " + "0 ".repeat(28));
        Check.due("start()", x::start, 4);
        x.cut(8 + 51 + 51);
        Check.due("make(2, 1, 1) with words enough", () -> x.make(2, 1, 1), 0);
        Check.due("number", x::number, 5);
        Check.due("its word in the table", () -> x.look(0, 0, 5), 1 + 2 + 4 + 32);
        Check.due("its leg 0 in the table", () -> x.look(0, 0, 9), 1);
        Check.due("its leg 1 in the table", () -> x.look(0, 0, 10), 9);
        Check.badState("not a word more", () -> x.write(0, 0, 1));
    }

    private static void promise5MakeArguments() {
        ExtentShelf x = Shelves.with(8, 8, 8);
        int[][] bad = {
            {-1, 1, 1}, {3, 1, 1}, {0, 0, 1}, {0, 2, 2}, {2, 2, 2}, {2, 0, 1}, {1, 1, 1}, {1, 4, 4},
            {1, 0, 2}, {1, -2, 2}, {0, 1, 0}, {0, 1, 6}, {0, 1, -1}, {2, 1, 6}, {1, 2, 1}, {1, 2, 3},
            {1, 2, 5}, {1, 2, 6}, {1, 2, 0}, {1, 3, 2}, {1, 3, 4}, {1, 3, 6}, {1, 3, 0},
            {0, 1, Integer.MIN_VALUE}, {Integer.MAX_VALUE, 1, 1},
        };
        for (int[] b : bad) {
            Check.badArgument("make(" + b[0] + ", " + b[1] + ", " + b[2] + ")", () -> x.make(b[0], b[1], b[2]));
        }
        int[][] good = {{0, 1, 1}, {0, 1, 5}, {1, 2, 2}, {1, 2, 4}, {1, 3, 3}, {2, 1, 1}, {2, 1, 5}};
        for (int[] g : good) {
            Check.due("make(" + g[0] + ", " + g[1] + ", " + g[2] + ")", () -> x.make(g[0], g[1], g[2]), 0);
            x.delete(0);
        }
    }

    private static void promise5MakeRefuses() {
        ExtentShelf none = new ExtentShelf();
        Check.unsupported("make(0, 1, 1) without disks", () -> none.make(0, 1, 1));
        ExtentShelf x = Shelves.with(8, 8);
        for (int v = 0; v < 4; v++) {
            x.make(0, 1, 1);
        }
        Check.unsupported("make(0, 1, 1): there are four", () -> x.make(0, 1, 1));
        Check.badArgument("make(0, 1, 6): argument before that", () -> x.make(0, 1, 6));
        x.delete(3);
        String before = Shelves.all(x);
        Check.unsupported("make(1, 3, 3): two disks", () -> x.make(1, 3, 3));
        Check.same("no room: nothing is changed", Shelves.all(x), before);
        Shelves.takeOut(x, 1);
        Check.unsupported("make(0, 1, 1): a listed disk is absent", () -> x.make(0, 1, 1));
        Check.badArgument("make(7, 1, 1): argument before that", () -> x.make(7, 1, 1));
        x.off();
        Check.badState("make(7, 1, 1): power first", () -> x.make(7, 1, 1));
    }

    private static void promise6Grow() {
        ExtentShelf x = Shelves.with(8, 8, 8);
        x.make(0, 1, 1);
        x.make(1, 2, 2);
        x.make(2, 1, 1);
        x.write(0, 0, 5);
        Check.due("grow(0, 1)", () -> x.grow(0, 1), 2);
        Check.due("grow(0, 3)", () -> x.grow(0, 3), 5);
        Check.same("linear", Shelves.legs(x, 0), "0/-1 17/-1 2/-1 10/-1 18/-1");
        Check.due("what it had stays", () -> x.read(0, 0), 5);
        Check.due("what it got is 0", () -> x.read(0, 19), 0);
        Check.due("grow(1, 2)", () -> x.grow(1, 2), 4);
        Check.same("striped", Shelves.legs(x, 1), "8/-1 16/-1 3/-1 11/-1 -1/-1");
        Check.due("grow(2, 1)", () -> x.grow(2, 1), 2);
        Check.same("twinned", Shelves.legs(x, 2), "1/9 19/4 -1/-1 -1/-1 -1/-1");
        Check.due("number", x::number, 10);

        ExtentShelf y = Shelves.with(2, 2);
        y.make(0, 1, 2);
        y.write(0, 4, 6);
        y.shrink(0, 1);
        y.cut(4 + 2 * 51);
        Check.due("grow(0, 1) clears what was there", () -> y.grow(0, 1), 2);
        Check.due("in the same extent", () -> y.where(0, 1, 0), 8);
        Check.due("read(0, 4)", () -> y.read(0, 4), 0);
        Check.badState("grow(0, 1) without a word more", () -> y.grow(0, 1));
    }

    private static void promise6GrowRefuses() {
        ExtentShelf x = Shelves.with(5, 2);
        x.make(0, 1, 2);
        x.make(1, 2, 2);
        Check.noElement("grow(-1, 0)", () -> x.grow(-1, 0));
        Check.noElement("grow(4, 0)", () -> x.grow(4, 0));
        Check.noElement("grow(2, 0): element before argument", () -> x.grow(2, 0));
        Check.badArgument("grow(0, 0)", () -> x.grow(0, 0));
        Check.badArgument("grow(0, -1)", () -> x.grow(0, -1));
        Check.badArgument("grow(0, 4)", () -> x.grow(0, 4));
        Check.badArgument("grow(0, the greatest int)", () -> x.grow(0, Integer.MAX_VALUE));
        Check.badArgument("grow(1, 1)", () -> x.grow(1, 1));
        Check.badArgument("grow(1, 3)", () -> x.grow(1, 3));
        Check.badArgument("grow(1, 4)", () -> x.grow(1, 4));
        Check.due("grow(1, 2) has room", () -> x.grow(1, 2), 4);
        String before = Shelves.all(x);
        Check.unsupported("grow(0, 3): room for one", () -> x.grow(0, 3));
        Check.unsupported("grow(0, 2): room for one", () -> x.grow(0, 2));
        Check.same("refused grows change nothing", Shelves.all(x), before);
        Shelves.takeOut(x, 1);
        Check.unsupported("grow(0, 1): a listed disk is absent", () -> x.grow(0, 1));
        Check.badArgument("grow(0, 9): argument before that", () -> x.grow(0, 9));
        x.off();
        Check.badState("grow(9, 9): power first", () -> x.grow(9, 9));
    }

    private static void promise7Shrink() {
        ExtentShelf x = Shelves.with(8, 8);
        x.make(2, 1, 4);
        x.write(0, 3, 33);
        Check.due("shrink(0, 1)", () -> x.shrink(0, 1), 3);
        Check.same("the first stays", Shelves.legs(x, 0), "0/8 -1/-1 -1/-1 -1/-1 -1/-1");
        Check.due("number", x::number, 4);
        Check.due("volume(0, 3)", () -> x.volume(0, 3), 4);
        Check.due("read(0, 3)", () -> x.read(0, 3), 33);
        Check.due("free(0)", () -> x.free(0), 7);
        Check.due("its word in the table", () -> x.look(0, 1, 5), 1 + 2 + 4 + 32);
        Check.due("an element that went in the table", () -> x.look(0, 1, 11), 0);
        x.make(1, 2, 4);
        x.cut(2 * 51);
        Check.due("shrink(1, 2) writes two tables", () -> x.shrink(1, 2), 2);
        Check.badState("and not a word more", () -> x.write(1, 0, 1));
    }

    private static void promise7ShrinkRefuses() {
        ExtentShelf x = Shelves.with(8, 8);
        x.make(0, 1, 3);
        x.make(1, 2, 4);
        String before = Shelves.all(x);
        Check.noElement("shrink(2, 1)", () -> x.shrink(2, 1));
        Check.noElement("shrink(-1, 1)", () -> x.shrink(-1, 1));
        Check.noElement("shrink(4, 0): element before argument", () -> x.shrink(4, 0));
        Check.badArgument("shrink(0, 0)", () -> x.shrink(0, 0));
        Check.badArgument("shrink(0, -1)", () -> x.shrink(0, -1));
        Check.badArgument("shrink(0, 3): not less", () -> x.shrink(0, 3));
        Check.badArgument("shrink(0, 4)", () -> x.shrink(0, 4));
        Check.badArgument("shrink(1, 1): no multiple", () -> x.shrink(1, 1));
        Check.badArgument("shrink(1, 3): no multiple", () -> x.shrink(1, 3));
        Check.same("refused shrinks change nothing", Shelves.all(x), before);
        Shelves.takeOut(x, 1);
        Check.unsupported("shrink(0, 1): a listed disk is absent", () -> x.shrink(0, 1));
        Check.badArgument("shrink(0, 3): argument before that", () -> x.shrink(0, 3));
        x.off();
        Check.badState("shrink(9, 9): power first", () -> x.shrink(9, 9));
    }

    private static void promise8Delete() {
        ExtentShelf x = Shelves.with(8, 8);
        x.make(0, 1, 2);
        x.make(2, 1, 2);
        x.make(0, 1, 1);
        Check.done("delete(1)", () -> x.delete(1));
        Check.due("number", x::number, 6);
        Check.noElement("volume(1, 0)", () -> x.volume(1, 0));
        Check.due("free(0)", () -> x.free(0), 6);
        Check.due("volume 2 stays", () -> x.volume(2, 2), 1);
        Check.due("its word in the table", () -> x.look(0, 1, 6), 0);
        Check.due("its leg in the table", () -> x.look(0, 1, 19), 0);
        Check.due("its last leg in the table", () -> x.look(0, 1, 22), 0);
        Check.due("volume 0 in the table", () -> x.look(0, 1, 9), 1);
        Check.due("volume 2 in the table", () -> x.look(0, 1, 29), 4);
    }

    private static void promise8DeleteRefuses() {
        ExtentShelf x = Shelves.with(8, 8);
        x.make(0, 1, 2);
        Check.noElement("delete(1)", () -> x.delete(1));
        Check.noElement("delete(-1)", () -> x.delete(-1));
        Check.noElement("delete(4)", () -> x.delete(4));
        Shelves.takeOut(x, 1);
        Check.unsupported("delete(0): a listed disk is absent", () -> x.delete(0));
        Check.noElement("delete(1): element before that", () -> x.delete(1));
        Check.due("volume(0, 2)", () -> x.volume(0, 2), 2);
        x.off();
        Check.badState("delete(4): power first", () -> x.delete(4));
    }

    private static void promise9Mend() {
        ExtentShelf x = Shelves.with(4, 4, 4);
        x.make(2, 1, 1);
        for (int w = 0; w < 4; w++) {
            x.write(0, w, 10 + w);
        }
        Check.due("mend(0) of a sound one", () -> x.mend(0), 0);
        Check.due("it is no change", x::number, 4);
        Shelves.takeOut(x, 0);
        x.drop(0);
        Check.same("leg 0 is gone", Shelves.legs(x, 0), "-1/8 -1/-1 -1/-1 -1/-1 -1/-1");
        x.cut(4 + 2 * 51);
        Check.due("mend(0)", () -> x.mend(0), 1);
        Check.due("number", x::number, 7);
        Check.same("leg 0 is elsewhere", Shelves.legs(x, 0), "16/8 -1/-1 -1/-1 -1/-1 -1/-1");
        Check.same("with the words of leg 1", Shelves.words(x, 2, 2), "10 11 12 13 " + "0 ".repeat(28));
        Check.badState("not a word more", () -> x.write(0, 0, 1));
    }

    private static void promise9MendSeveral() {
        ExtentShelf x = Shelves.with(4, 4, 8);
        x.make(2, 1, 4);
        Check.same("twinned", Shelves.legs(x, 0), "16/0 17/8 18/1 19/9 -1/-1");
        for (int w = 0; w < 16; w++) {
            x.write(0, w, 100 + w);
        }
        Shelves.takeOut(x, 0);
        x.drop(0);
        x.cut(6);
        Check.badState("mend(0) with 6 words", () -> x.mend(0));
        Check.due("start()", x::start, 6);
        Check.same("nothing is mended", Shelves.legs(x, 0), "16/-1 17/8 18/-1 19/9 -1/-1");
        Check.same("element by element, word by word", Shelves.words(x, 1, 2),
                "104 105 106 107 112 113 114 115 100 101 102 103 108 109 0 0 " + "0 ".repeat(16));
        Check.due("mend(0)", () -> x.mend(0), 2);
        Check.same("both are mended", Shelves.legs(x, 0), "16/10 17/8 18/11 19/9 -1/-1");
    }

    private static void promise9MendWithBothLegsGone() {
        ExtentShelf x = Shelves.with(4, 4, 4, 4);
        x.make(2, 1, 2);
        Check.same("twinned", Shelves.legs(x, 0), "0/8 16/24 -1/-1 -1/-1 -1/-1");
        x.write(0, 5, 55);
        for (int d = 0; d < 3; d++) {
            Shelves.takeOut(x, d);
            x.drop(d);
        }
        Shelves.putIn(x, 1);
        x.add(1, 2);
        Check.due("mend(0) leaves what is wholly gone", () -> x.mend(0), 1);
        Check.same("one leg is mended", Shelves.legs(x, 0), "-1/-1 8/24 -1/-1 -1/-1 -1/-1");
        Check.due("its word", () -> x.look(1, 2, 1), 55);
        Check.due("mend(0) again", () -> x.mend(0), 0);
        Check.unsupported("read(0, 0)", () -> x.read(0, 0));
    }

    private static void promise9MendInAMove() {
        ExtentShelf x = Shelves.with(8, 7, 5, 3);
        x.make(2, 1, 1);
        Shelves.takeOut(x, 1);
        x.drop(1);
        x.empty(0);
        x.step();
        Check.due("leg 0 is being copied to disk 2", () -> x.free(2), 4);
        Check.due("mend(0)", () -> x.mend(0), 1);
        Check.due("not to disk 2, though it has most", () -> x.where(0, 0, 1), 24);
        Check.due("the move goes on", x::moving, 0);
        Check.due("step()", x::step, 1);
        Check.due("write goes to both and the copy", () -> x.write(0, 1, 9), 2);
        Check.due("the copy has it", () -> x.look(2, 2, 1), 9);
    }

    private static void promise9MendRefuses() {
        ExtentShelf x = Shelves.with(2, 2);
        x.make(2, 1, 1);
        x.make(0, 1, 1);
        Check.noElement("mend(2)", () -> x.mend(2));
        Check.noElement("mend(-1)", () -> x.mend(-1));
        Check.noElement("mend(4)", () -> x.mend(4));
        Check.badArgument("mend(1): not twinned", () -> x.mend(1));
        Shelves.takeOut(x, 1);
        Check.unsupported("mend(0): a listed disk is absent", () -> x.mend(0));
        Check.badArgument("mend(1): argument before that", () -> x.mend(1));
        x.drop(1);
        String before = Shelves.all(x);
        Check.unsupported("mend(0): no room", () -> x.mend(0));
        Check.same("it changes nothing", Shelves.all(x), before);
        x.off();
        Check.badState("mend(4): power first", () -> x.mend(4));

        ExtentShelf y = Shelves.with(4, 2, 2);
        y.make(2, 1, 3);
        Check.same("twinned", Shelves.legs(y, 0), "0/8 1/16 2/9 -1/-1 -1/-1");
        Shelves.takeOut(y, 1);
        y.drop(1);
        String lost = Shelves.all(y);
        Check.unsupported("mend(0): room for one of two", () -> y.mend(0));
        Check.same("none of them is mended", Shelves.all(y), lost);
    }

    /** A volume 1 finds no room for its last leg; whatever is changed then, nothing of it is there. */
    private static void nothingStaysOfARefusedCall() {
        afterARefusedMake("add(2, 2)", x -> x.add(2, 2));
        afterARefusedMake("remove(1)", x -> x.remove(1));
        afterARefusedMake("grow(0, 1)", x -> x.grow(0, 1));
        afterARefusedMake("shrink(0, 1)", x -> x.shrink(0, 1));
        afterARefusedMake("delete(0)", x -> x.delete(0));
        afterARefusedMake("drop(1)", x -> {
            Shelves.takeOut(x, 1);
            x.drop(1);
        });
        afterARefusedMake("a move", x -> {
            x.empty(0);
            for (int i = 0; i < 4; i++) {
                x.step();
            }
            Check.due("where(0, 0, 0) after a move", () -> x.where(0, 0, 0), 8);
        });
        afterARefusedMake("the last step of a move", x -> {
            x.empty(0);
            for (int i = 0; i < 3; i++) {
                x.step();
            }
            Check.unsupported("make(2, 1, 3) in a move", () -> x.make(2, 1, 3));
            x.step();
        });
    }

    private static void afterARefusedMake(String name, Consumer<ExtentShelf> change) {
        ExtentShelf x = Shelves.with(8, 2);
        x.make(0, 1, 2);
        Check.unsupported("make(2, 1, 3)", () -> x.make(2, 1, 3));
        int number = x.number();
        change.accept(x);
        Check.same(name + " is a change", String.valueOf(x.number() > number), "true");
        Check.noElement("volume(1, 0) after " + name, () -> x.volume(1, 0));
        Check.due("its word in the tables", () -> Math.max(x.look(0, 0, 6), x.look(0, 1, 6)), 0);
        Check.due("its leg in the tables", () -> Math.max(x.look(0, 0, 19), x.look(0, 1, 19)), 0);
    }

    private static void promise15Volume() {
        ExtentShelf x = Shelves.with(8, 8, 8);
        x.make(1, 3, 3);
        x.make(2, 1, 5);
        int[][] due = {{1, 3, 3, 12}, {2, 1, 5, 20}};
        for (int v = 0; v < 2; v++) {
            for (int what = 0; what < 4; what++) {
                int volume = v;
                int which = what;
                Check.due("volume(" + v + ", " + what + ")", () -> x.volume(volume, which), due[v][what]);
            }
        }
        Check.badArgument("volume(0, -1)", () -> x.volume(0, -1));
        Check.badArgument("volume(0, 4)", () -> x.volume(0, 4));
        Check.noElement("volume(2, 0)", () -> x.volume(2, 0));
        Check.noElement("volume(-1, 0)", () -> x.volume(-1, 0));
        Check.noElement("volume(4, 4): element before argument", () -> x.volume(4, 4));
        x.off();
        Check.badState("volume(4, 4): power first", () -> x.volume(4, 4));
    }

    private static void promise16Where() {
        ExtentShelf x = Shelves.with(8, 8);
        x.make(2, 1, 2);
        x.make(0, 1, 1);
        Check.due("where(0, 1, 1)", () -> x.where(0, 1, 1), 9);
        Check.due("where(1, 0, 0)", () -> x.where(1, 0, 0), 2);
        Check.due("where(1, 0, 1): no leg 1", () -> x.where(1, 0, 1), -1);
        Check.due("where(0, 2, 0): no element", () -> x.where(0, 2, 0), -1);
        Check.due("where(0, 5, 0)", () -> x.where(0, 5, 0), -1);
        Check.due("where(0, -1, 0)", () -> x.where(0, -1, 0), -1);
        Check.due("where(0, 0, -1)", () -> x.where(0, 0, -1), -1);
        Check.due("where(0, 0, 2)", () -> x.where(0, 0, 2), -1);
        Check.due("where(0, the least int, the greatest)",
                () -> x.where(0, Integer.MIN_VALUE, Integer.MAX_VALUE), -1);
        Check.noElement("where(2, 0, 0)", () -> x.where(2, 0, 0));
        Check.noElement("where(-1, 0, 0)", () -> x.where(-1, 0, 0));
        Check.noElement("where(4, 0, 0)", () -> x.where(4, 0, 0));
        Shelves.takeOut(x, 1);
        Check.due("where(0, 1, 1) on an absent disk", () -> x.where(0, 1, 1), 9);
        x.drop(1);
        Check.due("where(0, 1, 1) when it is gone", () -> x.where(0, 1, 1), -1);
        x.off();
        Check.badState("where(4, 0, 0): power first", () -> x.where(4, 0, 0));
    }
}

/** Promises 10 and 11: words of volumes, which are written to all legs and read of the least one. */
public final class WordsTest {
    public static void main(String[] args) {
        promise10WriteLinear();
        promise10WriteStriped();
        promise10WriteTwinned();
        promise10WriteBesideAnAbsentLeg();
        promise10WriteWithTwoAbsentDisks();
        promise10WriteCutOff();
        promise10WriteWhileCopied();
        promise10WriteRefuses();
        promise11ReadTheLeastLeg();
        promise11ReadRefuses();
        Check.end();
    }

    private static void promise10WriteLinear() {
        ExtentShelf x = Shelves.with(4, 4);
        x.make(0, 1, 2);
        Check.due("write(0, 0, 5)", () -> x.write(0, 0, 5), 1);
        Check.due("write(0, 3, the least int)", () -> x.write(0, 3, Integer.MIN_VALUE), 1);
        Check.due("write(0, 4, 6)", () -> x.write(0, 4, 6), 1);
        Check.due("write(0, 7, -1)", () -> x.write(0, 7, -1), 1);
        Check.same("element 0", Shelves.words(x, 0, 2), "5 0 0 -2147483648 " + "0 ".repeat(28));
        Check.same("element 1", Shelves.words(x, 1, 2), "6 0 0 -1 " + "0 ".repeat(28));
        Check.due("a word is no change", x::number, 3);
    }

    private static void promise10WriteStriped() {
        ExtentShelf x = Shelves.with(4, 4, 4);
        x.make(1, 2, 4);
        Check.same("two columns", Shelves.legs(x, 0), "0/-1 8/-1 16/-1 1/-1 -1/-1");
        x.make(1, 3, 3);
        Check.same("three columns", Shelves.legs(x, 1), "9/-1 17/-1 2/-1 -1/-1 -1/-1");
        for (int w = 0; w < 16; w++) {
            x.write(0, w, 100 + w);
        }
        for (int w = 0; w < 12; w++) {
            x.write(1, w, 200 + w);
        }
        Check.same("disk 0", Shelves.words(x, 0, 2),
                "100 102 104 106 109 111 113 115 202 205 208 211 " + "0 ".repeat(20));
        Check.same("disk 1", Shelves.words(x, 1, 2), "101 103 105 107 200 203 206 209 " + "0 ".repeat(24));
        Check.same("disk 2", Shelves.words(x, 2, 2), "108 110 112 114 201 204 207 210 " + "0 ".repeat(24));
        for (int w = 0; w < 16; w++) {
            int word = w;
            Check.due("read(0, " + w + ")", () -> x.read(0, word), 100 + w);
        }
        for (int w = 0; w < 12; w++) {
            int word = w;
            Check.due("read(1, " + w + ")", () -> x.read(1, word), 200 + w);
        }
    }

    private static void promise10WriteTwinned() {
        ExtentShelf x = Shelves.with(4, 4);
        x.make(2, 1, 2);
        Check.due("write(0, 6, 66)", () -> x.write(0, 6, 66), 2);
        Check.due("leg 0", () -> x.look(0, 2, 6), 66);
        Check.due("leg 1", () -> x.look(1, 2, 6), 66);
        Check.due("read(0, 6)", () -> x.read(0, 6), 66);
    }

    private static void promise10WriteBesideAnAbsentLeg() {
        ExtentShelf x = Shelves.with(4, 4, 4);
        x.make(2, 1, 2);
        Check.same("twinned", Shelves.legs(x, 0), "0/8 16/1 -1/-1 -1/-1 -1/-1");
        Shelves.takeOut(x, 0);
        Check.due("write(0, 4, 7): leg 1 is absent", () -> x.write(0, 4, 7), 1);
        Check.due("the number is 2 more", x::number, 6);
        Check.same("only this element's leg is gone", Shelves.legs(x, 0), "0/8 16/-1 -1/-1 -1/-1 -1/-1");
        Check.due("write(0, 5, 8): it is gone already", () -> x.write(0, 5, 8), 1);
        Check.due("that is no change", x::number, 6);
        Check.due("write(0, 0, 9): leg 0 is absent", () -> x.write(0, 0, 9), 1);
        Check.same("leg 0 is gone", Shelves.legs(x, 0), "-1/8 16/-1 -1/-1 -1/-1 -1/-1");
        Check.due("the number", x::number, 8);
        Check.due("disk 0 is still listed", () -> x.free(0), 4);
        Check.due("it is back", () -> Shelves.putIn(x, 0), 8);
        Check.due("read(0, 0)", () -> x.read(0, 0), 9);
        Check.due("what it had is 0 still", () -> x.look(0, 2, 0), 0);
        Check.due("it has the new table", () -> Math.max(x.look(0, 0, 0), x.look(0, 1, 0)), 8);
    }

    private static void promise10WriteWithTwoAbsentDisks() {
        ExtentShelf x = Shelves.with(2, 2, 2, 2);
        x.make(2, 1, 2);
        Check.same("twinned", Shelves.legs(x, 0), "0/8 16/24 -1/-1 -1/-1 -1/-1");
        Shelves.takeOut(x, 0);
        Shelves.takeOut(x, 1);
        String before = Shelves.all(x);
        Check.unsupported("write(0, 0, 1): no leg of it is present", () -> x.write(0, 0, 1));
        Check.same("no leg is gone by that", Shelves.all(x), before);
        Check.due("write(0, 4, 1): both legs of it are", () -> x.write(0, 4, 1), 2);
        Check.due("no change", x::number, 5);
        x.drop(0);
        Check.unsupported("write(0, 0, 1): one gone, one absent", () -> x.write(0, 0, 1));
        Check.due("where(0, 0, 1)", () -> x.where(0, 0, 1), 8);
    }

    private static void promise10WriteCutOff() {
        ExtentShelf x = Shelves.with(2, 2);
        x.make(2, 1, 1);
        Shelves.takeOut(x, 1);
        x.cut(50);
        Check.badState("write(0, 0, 1): cut in the table", () -> x.write(0, 0, 1));
        Check.due("start() finds the old one", x::start, 3);
        Check.due("leg 1 is not gone", () -> x.where(0, 0, 1), 8);
        Check.due("the word is not written", () -> x.read(0, 0), 0);
        x.cut(51);
        Check.badState("write(0, 0, 1): cut behind the table", () -> x.write(0, 0, 1));
        Check.due("start() finds the new one", x::start, 5);
        Check.due("leg 1 is gone", () -> x.where(0, 0, 1), -1);
        Check.due("the word is not written yet", () -> x.read(0, 0), 0);
        x.cut(1);
        Check.due("write(0, 0, 1)", () -> x.write(0, 0, 1), 1);
        Check.due("read(0, 0)", () -> x.read(0, 0), 1);
    }

    private static void promise10WriteWhileCopied() {
        ExtentShelf x = Shelves.with(4, 4, 4);
        x.make(2, 1, 2);
        Check.same("twinned", Shelves.legs(x, 0), "0/8 16/1 -1/-1 -1/-1 -1/-1");
        x.empty(0);
        x.step();
        x.step();
        x.cut(3);
        Check.due("write(0, 1, 5): leg 0, its copy, leg 1", () -> x.write(0, 1, 5), 2);
        Check.due("the copy", () -> x.look(2, 2, 5), 5);
        Check.badState("not a word more", () -> x.write(0, 1, 6));

        ExtentShelf y = Shelves.with(4, 4, 4);
        y.make(2, 1, 2);
        y.empty(0);
        y.step();
        y.step();
        Check.due("write(0, 2, 7): not copied yet", () -> y.write(0, 2, 7), 2);
        Check.due("not to the copy", () -> y.look(2, 2, 6), 0);
        Check.due("write(0, 4, 8): another element", () -> y.write(0, 4, 8), 2);
        Check.due("the copy has nothing of it", () -> y.look(2, 2, 4), 0);
        y.cut(2);
        Check.badState("write(0, 0, 9): cut behind the copy", () -> y.write(0, 0, 9));
        Check.due("leg 0", () -> y.look(0, 2, 0), 9);
        Check.due("the copy goes before leg 1", () -> y.look(2, 2, 4), 9);
        Check.due("leg 1", () -> y.look(1, 2, 0), 0);
    }

    private static void promise10WriteRefuses() {
        ExtentShelf x = Shelves.with(4, 4);
        x.make(0, 1, 2);
        Check.noElement("write(1, 0, 0)", () -> x.write(1, 0, 0));
        Check.noElement("write(-1, 0, 0)", () -> x.write(-1, 0, 0));
        Check.noElement("write(4, -1, 0): element before index", () -> x.write(4, -1, 0));
        Check.outOfBounds("write(0, -1, 0)", () -> x.write(0, -1, 0));
        Check.outOfBounds("write(0, 8, 0)", () -> x.write(0, 8, 0));
        Shelves.takeOut(x, 1);
        Check.unsupported("write(0, 4, 1): its disk is absent", () -> x.write(0, 4, 1));
        Check.outOfBounds("write(0, 8, 1): index before that", () -> x.write(0, 8, 1));
        Check.due("write(0, 0, 1): its disk is not", () -> x.write(0, 0, 1), 1);
        Check.due("no change", x::number, 3);
        x.off();
        Check.badState("write(4, -1, 0): power first", () -> x.write(4, -1, 0));
    }

    private static void promise11ReadTheLeastLeg() {
        ExtentShelf x = Shelves.with(2, 2);
        x.make(2, 1, 1);
        x.write(0, 2, 5);
        Check.due("read(0, 2)", () -> x.read(0, 2), 5);
        Shelves.takeOut(x, 0);
        Check.due("read(0, 2) of leg 1", () -> x.read(0, 2), 5);
        Check.due("it is no change", x::number, 3);
        x.write(0, 2, 6);
        Check.due("read(0, 2) of leg 1 alone", () -> x.read(0, 2), 6);
        Shelves.putIn(x, 0);
        Check.due("leg 0 has the old word", () -> x.look(0, 2, 2), 5);
        Check.due("read(0, 2): leg 0 is gone", () -> x.read(0, 2), 6);
    }

    private static void promise11ReadRefuses() {
        ExtentShelf x = Shelves.with(4, 4);
        x.make(0, 1, 2);
        Check.noElement("read(1, 0)", () -> x.read(1, 0));
        Check.noElement("read(-1, 0)", () -> x.read(-1, 0));
        Check.noElement("read(4, -1): element before index", () -> x.read(4, -1));
        Check.outOfBounds("read(0, -1)", () -> x.read(0, -1));
        Check.outOfBounds("read(0, 8)", () -> x.read(0, 8));
        Shelves.takeOut(x, 1);
        Check.unsupported("read(0, 7): its disk is absent", () -> x.read(0, 7));
        Check.outOfBounds("read(0, 8): index before that", () -> x.read(0, 8));
        Check.due("read(0, 3): its disk is not", () -> x.read(0, 3), 0);
        x.drop(1);
        Check.unsupported("read(0, 7): it is gone", () -> x.read(0, 7));
        x.off();
        Check.badState("read(4, -1): power first", () -> x.read(4, -1));
    }
}

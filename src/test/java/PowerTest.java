/** Promises 18, 19 and 21 to 23: power that goes off and comes on, and the slots on the disks. */
public final class PowerTest {
    public static void main(String[] args) {
        promise18Cut();
        promise18CutRefuses();
        promise19Off();
        promise21StartTakesTheGreatest();
        promise21StartAtEveryCut();
        promise21StartTakesTheLeastDisks();
        promise21StartWritesTheTable();
        promise21StartMakesTwinsTheSame();
        promise21StartRefuses();
        promise22Number();
        promise23LookAtATable();
        promise23LookAtTwoSlots();
        promise23LookRefuses();
        Check.end();
    }

    private static void promise18Cut() {
        ExtentShelf x = Shelves.with(4, 4);
        x.make(0, 1, 1);
        x.cut(2);
        Check.due("first word", () -> x.write(0, 0, 1), 1);
        Check.due("reading is free", () -> x.read(0, 0), 1);
        Check.due("second word, though it is the same", () -> x.write(0, 0, 1), 1);
        Check.badState("third word", () -> x.write(0, 0, 3));
        Check.badState("the power is off", () -> x.read(0, 0));
        Check.due("start()", x::start, 3);
        Check.due("it is not written", () -> x.read(0, 0), 1);
        Check.due("no cut is set then", () -> x.write(0, 0, 4), 1);
        x.cut(0);
        x.cut(1);
        Check.due("a cut in place of one", () -> x.write(0, 0, 5), 1);
        x.cut(-1);
        Check.due("none", () -> x.write(0, 0, 6), 1);
        x.cut(0);
        Check.badState("none at all", () -> x.write(0, 0, 7));
        x.start();
        x.cut(0);
        x.off();
        x.start();
        Check.due("power that went off before it", () -> x.write(0, 0, 8), 1);
    }

    private static void promise18CutRefuses() {
        ExtentShelf x = Shelves.with(4, 4);
        x.make(0, 1, 1);
        x.cut(0);
        Check.badArgument("cut(-2)", () -> x.cut(-2));
        Check.badArgument("cut(the least int)", () -> x.cut(Integer.MIN_VALUE));
        Check.badState("the cut before stays", () -> x.write(0, 0, 1));
        Check.badState("cut(-2): power first", () -> x.cut(-2));
        x.start();
        Check.done("cut(the greatest int)", () -> x.cut(Integer.MAX_VALUE));
        Check.due("write(0, 0, 1)", () -> x.write(0, 0, 1), 1);
    }

    private static void promise19Off() {
        ExtentShelf x = Shelves.with(4, 4);
        x.make(0, 1, 1);
        x.empty(0);
        Check.done("off()", x::off);
        Check.badState("off() again", x::off);
        Check.due("number()", x::number, -1);
        Check.due("moving()", x::moving, -1);
        Check.badState("volume(0, 0)", () -> x.volume(0, 0));
        Check.due("start()", x::start, 3);
        Check.due("volume(0, 2)", () -> x.volume(0, 2), 1);
    }

    private static void promise21StartTakesTheGreatest() {
        ExtentShelf x = Shelves.with(4, 4);
        x.cut(51);
        Check.badState("make(0, 1, 1): cut in the first table", () -> x.make(0, 1, 1));
        Check.due("start() finds the old one", x::start, 2);
        Check.noElement("volume(0, 0)", () -> x.volume(0, 0));
        x.cut(4 + 51);
        Check.badState("make(0, 1, 1): cut behind it", () -> x.make(0, 1, 1));
        x.plug(0, false);
        Check.due("start() without disk 0", x::start, 2);
        Check.due("start() with it", () -> Shelves.putIn(x, 0), 3);
        Check.due("volume(0, 2)", () -> x.volume(0, 2), 1);
        ExtentShelf none = new ExtentShelf();
        none.cut(50);
        Check.badState("add(0, 4): cut in the only table", () -> none.add(0, 4));
        Check.due("start() finds none", none::start, 0);
        Check.due("free(0)", () -> none.free(0), -1);
        ExtentShelf gone = Shelves.with(4);
        Check.due("start() without the only disk", () -> Shelves.takeOut(gone, 0), 0);
        Check.due("free(0) without it", () -> gone.free(0), -1);
        Check.done("another beginning", () -> gone.add(1, 4));
        Check.due("start() with both: the same number, the least disk", () -> Shelves.putIn(gone, 0), 1);
        Check.due("free(0) of the first", () -> gone.free(0), 4);
        Check.due("free(1) of the second", () -> gone.free(1), -1);
    }

    private static void promise21StartAtEveryCut() {
        for (int n = 0; n <= 4 + 3 * 51; n++) {
            ExtentShelf x = Shelves.with(4, 4, 4);
            x.make(0, 1, 1);
            x.cut(n);
            boolean whole = n >= 4 + 51;
            if (n == 4 + 3 * 51) {
                Check.due("grow(0, 1) with " + n, () -> x.grow(0, 1), 2);
                x.off();
            } else {
                Check.badState("grow(0, 1) with " + n, () -> x.grow(0, 1));
            }
            Check.due("start() after " + n, x::start, whole ? 5 : 4);
            Check.due("elements after " + n, () -> x.volume(0, 2), whole ? 2 : 1);
            for (int d = 0; d < 3; d++) {
                int disk = d;
                Check.due("newest table of " + d + " after " + n,
                        () -> Math.max(x.look(disk, 0, 50), x.look(disk, 1, 50)), whole ? 5 : 4);
            }
            Check.due("grow(0, 1) after " + n, () -> x.grow(0, 1), whole ? 3 : 2);
            Check.due("start() after that", () -> Shelves.restart(x), whole ? 6 : 5);
        }
    }

    private static void promise21StartTakesTheLeastDisks() {
        ExtentShelf x = Shelves.with(4, 4);
        x.make(2, 1, 1);
        Shelves.takeOut(x, 1);
        x.write(0, 0, 10);
        Check.due("disk 0 alone", x::number, 5);
        x.off();
        x.plug(0, false);
        x.plug(1, true);
        Check.due("disk 1 alone", x::start, 3);
        x.write(0, 0, 11);
        Check.due("has the same number", x::number, 5);
        Check.due("both", () -> Shelves.putIn(x, 0), 5);
        Check.same("the table is disk 0's", Shelves.legs(x, 0), "0/-1 -1/-1 -1/-1 -1/-1 -1/-1");
        Check.due("read(0, 0)", () -> x.read(0, 0), 10);
        Check.due("disk 1 has a slot with the number, and keeps it", () -> x.look(1, 0, 9), 0);
        Check.due("with its own leg", () -> x.look(1, 0, 10), 9);
        Check.due("mend(0)", () -> x.mend(0), 1);
        Check.due("number", x::number, 6);
        Check.due("disk 1 has that change", () -> x.look(1, 1, 0), 6);
    }

    private static void promise21StartWritesTheTable() {
        ExtentShelf x = Shelves.with(4, 4, 4);
        x.make(2, 1, 1);
        x.remove(2);
        Check.same("the numbers of disk 1", x.look(1, 0, 0) + " " + x.look(1, 1, 0), "4 5");
        Check.same("the numbers of disk 2", x.look(2, 0, 0) + " " + x.look(2, 1, 0), "3 4");
        Shelves.takeOut(x, 1);
        x.write(0, 0, 1);
        Check.same("an absent disk is not written", x.look(1, 0, 0) + " " + x.look(1, 1, 0), "4 5");
        String before = Shelves.words(x, 0, 0);
        String newest = Shelves.words(x, 0, 1);
        Check.due("start() with disk 1", () -> Shelves.putIn(x, 1), 7);
        Check.same("disk 1 has the table in the lesser slot", Shelves.words(x, 1, 0), newest);
        Check.due("the other slot stays", () -> x.look(1, 1, 0), 5);
        Check.same("a disk that has it is not written", Shelves.words(x, 0, 0) + Shelves.words(x, 0, 1),
                before + newest);
        Check.same("nor one that is not listed", x.look(2, 0, 0) + " " + x.look(2, 1, 0), "3 4");
        Shelves.restart(x);
        Check.due("again: disk 1 has it already", () -> x.look(1, 1, 0), 5);
    }

    private static void promise21StartMakesTwinsTheSame() {
        ExtentShelf x = Shelves.with(4, 4, 4);
        x.make(2, 1, 2);
        Check.same("twinned", Shelves.legs(x, 0), "0/8 16/1 -1/-1 -1/-1 -1/-1");
        for (int w = 0; w < 8; w++) {
            x.write(0, w, 1 + w);
        }
        x.cut(1);
        Check.badState("write(0, 1, 22): leg 0 alone", () -> x.write(0, 1, 22));
        Check.due("leg 1 before", () -> x.look(1, 2, 1), 2);
        x.plug(1, false);
        x.start();
        Check.due("leg 1 is absent: not written", () -> x.look(1, 2, 1), 2);
        Shelves.putIn(x, 1);
        Check.due("leg 1 is as leg 0", () -> x.look(1, 2, 1), 22);
        x.cut(1);
        Check.badState("write(0, 7, 88): leg 0 alone", () -> x.write(0, 7, 88));
        x.start();
        Check.due("leg 1 of element 1 is as leg 0", () -> x.look(0, 2, 7), 88);
        Check.due("read(0, 7)", () -> x.read(0, 7), 88);
        Check.same("the rest is as it was", Shelves.words(x, 0, 2), "1 22 3 4 5 6 7 88 " + "0 ".repeat(24));
    }

    private static void promise21StartRefuses() {
        ExtentShelf x = Shelves.with(4, 4);
        Check.badState("start() with power", x::start);
        Check.due("number()", x::number, 2);
    }

    private static void promise22Number() {
        ExtentShelf x = Shelves.with(4, 4);
        Check.due("number()", x::number, 2);
        x.make(0, 1, 1);
        Check.due("number() after a change", x::number, 3);
        x.write(0, 0, 1);
        Check.due("number() after a word", x::number, 3);
        x.off();
        Check.due("number() without power", x::number, -1);
        x.start();
        Check.due("number() after start()", x::number, 3);
        Shelves.takeOut(x, 1);
        x.drop(1);
        Check.due("number() after a change with a listed disk absent", x::number, 5);
    }

    private static void promise23LookAtATable() {
        ExtentShelf x = Shelves.with(3, 8, 4);
        x.make(1, 3, 3);
        x.make(2, 1, 2);
        x.delete(0);
        x.make(0, 1, 1);
        int[] due = new int[51];
        due[0] = 7;
        due[1] = 3;
        due[2] = 8;
        due[3] = 4;
        due[5] = 1 + 0 + 4 * 1 + 32 * 1;
        due[6] = 1 + 2 + 4 * 1 + 32 * 2;
        due[9] = 1 + 8 * 1 + 0;
        due[19] = 1 + 8 * 1 + 1;
        due[20] = 1 + 8 * 2 + 1;
        due[21] = 1 + 8 * 1 + 2;
        due[22] = 1 + 8 * 0 + 1;
        for (int i = 0; i < 49; i++) {
            due[49] += due[i] * (i + 1);
        }
        due[50] = 7;
        for (int i = 0; i < 51; i++) {
            int word = i;
            Check.due("look(0, 0, " + i + ")", () -> x.look(0, 0, word), due[i]);
            Check.due("look(1, 1, " + i + ")", () -> x.look(1, 1, word), due[i]);
            Check.due("look(2, 0, " + i + ")", () -> x.look(2, 0, word), due[i]);
        }
    }

    private static void promise23LookAtTwoSlots() {
        ExtentShelf x = Shelves.with(4);
        x.make(0, 1, 1);
        Check.due("slot 0", () -> x.look(0, 0, 0), 1);
        Check.due("slot 1", () -> x.look(0, 1, 0), 2);
        x.cut(10);
        Check.badState("delete(0): cut after ten words", () -> x.delete(0));
        Check.due("the first ten", () -> x.look(0, 0, 0), 3);
        Check.due("not the last one", () -> x.look(0, 0, 50), 1);
        Check.due("slot 1 stays", () -> x.look(0, 1, 0), 2);
        x.start();
        Check.done("delete(0)", () -> x.delete(0));
        Check.due("into the slot that is not whole", () -> x.look(0, 0, 50), 3);
        Check.due("slot 1 is as before", () -> x.look(0, 1, 50), 2);
        x.make(0, 1, 1);
        Check.due("into the lesser one", () -> x.look(0, 1, 50), 4);
        Shelves.takeOut(x, 0);
        Check.due("an absent disk", () -> x.look(0, 1, 50), 4);
        x.off();
        Check.due("without power", () -> x.look(0, 1, 50), 4);
    }

    private static void promise23LookRefuses() {
        ExtentShelf x = Shelves.with(2);
        Check.due("look(3, 1, 50)", () -> x.look(3, 1, 50), 0);
        Check.due("look(3, 2, 31)", () -> x.look(3, 2, 31), 0);
        int[][] bad = {
            {-1, 0, 0}, {4, 0, 0}, {0, -1, 0}, {0, 3, 0}, {0, 0, -1}, {0, 0, 51}, {0, 1, 51}, {0, 2, 32},
            {0, 2, -1}, {0, 2, 50}, {Integer.MIN_VALUE, 0, 0}, {0, Integer.MAX_VALUE, 0},
            {0, 0, Integer.MAX_VALUE},
        };
        for (int[] b : bad) {
            Check.outOfBounds("look(" + b[0] + ", " + b[1] + ", " + b[2] + ")", () -> x.look(b[0], b[1], b[2]));
        }
        x.off();
        Check.outOfBounds("look(4, 0, 0) without power", () -> x.look(4, 0, 0));
    }
}

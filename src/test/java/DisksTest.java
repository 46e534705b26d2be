/** Promises 1 to 4, 17 and 20: disks that are listed and not, present and absent. */
public final class DisksTest {
    public static void main(String[] args) {
        promise1NewObject();
        promise2AddLists();
        promise2AddClearsExtents();
        promise2AddClearsNoOtherDisk();
        promise2AddRefuses();
        promise3RemoveListsNoMore();
        promise3RemoveEndsAMove();
        promise3RemoveRefuses();
        promise4Drop();
        promise4DropOneOfTwo();
        promise4DropRefuses();
        promise17Free();
        promise17FreeRefuses();
        promise20Plug();
        Check.end();
    }

    private static void promise1NewObject() {
        ExtentShelf x = new ExtentShelf();
        Check.due("new: number()", x::number, 0);
        Check.due("new: moving()", x::moving, -1);
        String zeros = "0 ".repeat(51);
        for (int d = 0; d < 4; d++) {
            int disk = d;
            Check.due("new: free(" + d + ")", () -> x.free(disk), -1);
            Check.noElement("new: volume(" + d + ", 0)", () -> x.volume(disk, 0));
            Check.same("new: slot 0 of " + d, Shelves.words(x, d, 0), zeros);
            Check.same("new: slot 1 of " + d, Shelves.words(x, d, 1), zeros);
            Check.same("new: extents of " + d, Shelves.words(x, d, 2), "0 ".repeat(32));
        }
        Check.badState("new: start()", x::start);
        x.off();
        for (int d = 0; d < 4; d++) {
            int disk = d;
            Check.dueBoolean("new: plug(" + d + ", true)", () -> x.plug(disk, true), false);
        }
        Check.due("new: start() after off()", x::start, 0);
    }

    private static void promise2AddLists() {
        ExtentShelf x = new ExtentShelf();
        Check.done("add(3, 2)", () -> x.add(3, 2));
        Check.due("number after add", x::number, 1);
        Check.due("free(3)", () -> x.free(3), 2);
        Check.due("number on disk 3", () -> x.look(3, 0, 0), 1);
        Check.due("extents of disk 3 in the table", () -> x.look(3, 0, 4), 2);
        Check.due("sum", () -> x.look(3, 0, 49), 1 + 2 * 5);
        Check.due("nothing goes to a disk that is not listed", () -> x.look(0, 0, 0), 0);
        Check.done("add(0, 8)", () -> x.add(0, 8));
        Check.due("free(0)", () -> x.free(0), 8);
        Check.due("disk 3 gets the second table too", () -> x.look(3, 1, 0), 2);
        Check.due("disk 0 gets it in its first slot", () -> x.look(0, 0, 0), 2);
        Check.due("extents of disk 0 in it", () -> x.look(3, 1, 1), 8);
    }

    private static void promise2AddClearsExtents() {
        ExtentShelf x = Shelves.with(8, 2);
        x.make(0, 1, 5);
        for (int w = 0; w < 20; w++) {
            x.write(0, w, w + 1);
        }
        x.delete(0);
        x.remove(0);
        Check.due("a removed disk keeps its words", () -> x.look(0, 2, 19), 20);
        x.cut(2 * 51);
        Check.done("add(0, 2) writes two tables and no more", () -> x.add(0, 2));
        Check.same("all extents are 0", Shelves.words(x, 0, 2), "0 ".repeat(32));
        Check.due("free(0)", () -> x.free(0), 2);

        ExtentShelf y = Shelves.with(8, 2);
        y.make(0, 1, 1);
        y.write(0, 0, 7);
        y.delete(0);
        y.remove(0);
        y.cut(0);
        Check.badState("add(0, 4) without a word more", () -> y.add(0, 4));
        Check.due("the extents are 0 before the change", () -> y.look(0, 2, 0), 0);
        Check.due("start()", y::start, 5);
        Check.due("free(0): it was not listed", () -> y.free(0), -1);
    }

    private static void promise2AddClearsNoOtherDisk() {
        for (int d = 0; d < 4; d++) {
            ExtentShelf x = Shelves.with(8, 8, 8, 8);
            for (int v = 0; v < 4; v++) {
                x.make(0, 1, 5);
                for (int w = 0; w < 20; w++) {
                    x.write(v, w, 1 + w);
                }
            }
            for (int v = 0; v < 4; v++) {
                x.delete(v);
            }
            String[] before = new String[4];
            for (int i = 0; i < 4; i++) {
                before[i] = Shelves.words(x, i, 2);
            }
            x.remove(d);
            x.add(d, 2);
            for (int i = 0; i < 4; i++) {
                Check.same("extents of " + i + " after add(" + d + ", 2)", Shelves.words(x, i, 2),
                        i == d ? "0 ".repeat(32) : before[i]);
            }
        }
    }

    private static void promise2AddRefuses() {
        ExtentShelf x = Shelves.with(4, 4);
        String before = Shelves.all(x);
        Check.badArgument("add(-1, 4)", () -> x.add(-1, 4));
        Check.badArgument("add(4, 4)", () -> x.add(4, 4));
        Check.badArgument("add(2, 1)", () -> x.add(2, 1));
        Check.badArgument("add(2, 9)", () -> x.add(2, 9));
        Check.badArgument("add(0, 0): argument before listed", () -> x.add(0, 0));
        Check.unsupported("add(0, 4): listed", () -> x.add(0, 4));
        Check.same("refused adds change nothing", Shelves.all(x), before);
        Shelves.takeOut(x, 3);
        Check.unsupported("add(3, 4): absent", () -> x.add(3, 4));
        Check.done("add(2, 4): only 3 is absent, which is not listed", () -> x.add(2, 4));
        Shelves.takeOut(x, 1);
        Shelves.putIn(x, 3);
        Check.unsupported("add(3, 4): a listed one is absent", () -> x.add(3, 4));
        x.off();
        Check.badState("add(-1, 99): power before argument", () -> x.add(-1, 99));
    }

    private static void promise3RemoveListsNoMore() {
        ExtentShelf x = Shelves.with(4, 4);
        Check.done("remove(1)", () -> x.remove(1));
        Check.due("number", x::number, 3);
        Check.due("free(1)", () -> x.free(1), -1);
        Check.due("disk 0 has the change", () -> x.look(0, 0, 0), 3);
        Check.due("which lists disk 1 no more", () -> x.look(0, 0, 2), 0);
        Check.due("disk 1 has the table before", () -> x.look(1, 0, 0), 2);
        Check.due("and no other one", () -> x.look(1, 1, 0), 0);
        Check.due("start() finds the newer one", () -> Shelves.restart(x), 3);
        Check.due("free(1) after it", () -> x.free(1), -1);
    }

    private static void promise3RemoveEndsAMove() {
        ExtentShelf x = Shelves.with(4, 4, 4);
        x.empty(1);
        Check.done("remove(2)", () -> x.remove(2));
        Check.due("a move of another disk goes on", x::moving, 1);
        Check.done("remove(1)", () -> x.remove(1));
        Check.due("a move of this one ends", x::moving, -1);
        Check.unsupported("step() after it", x::step);
    }

    private static void promise3RemoveRefuses() {
        ExtentShelf x = Shelves.with(4, 3, 3);
        x.make(0, 1, 1);
        Check.badArgument("remove(-1)", () -> x.remove(-1));
        Check.badArgument("remove(4)", () -> x.remove(4));
        Check.unsupported("remove(3): not listed", () -> x.remove(3));
        Check.unsupported("remove(0): a leg is there", () -> x.remove(0));
        x.empty(0);
        x.step();
        String before = Shelves.all(x);
        Check.unsupported("remove(1): a leg is being copied there", () -> x.remove(1));
        Check.same("a refused remove changes nothing", Shelves.all(x), before);
        Check.done("remove(2): nothing is copied there", () -> x.remove(2));
        Shelves.takeOut(x, 0);
        Check.unsupported("remove(1): a listed one is absent", () -> x.remove(1));
        Check.unsupported("remove(0): absent", () -> x.remove(0));
        x.off();
        Check.badState("remove(4): power before argument", () -> x.remove(4));
        ExtentShelf one = Shelves.with(2);
        Check.unsupported("remove(0): the only one", () -> one.remove(0));
    }

    private static void promise4Drop() {
        ExtentShelf x = Shelves.with(4, 4, 4);
        x.make(2, 1, 2);
        x.make(0, 1, 3);
        Check.same("twinned", Shelves.legs(x, 0), "0/8 16/1 -1/-1 -1/-1 -1/-1");
        Check.same("linear", Shelves.legs(x, 1), "9/-1 17/-1 2/-1 -1/-1 -1/-1");
        x.write(0, 4, 44);
        Shelves.takeOut(x, 0);
        Check.due("drop(0)", () -> x.drop(0), 3);
        Check.due("number is 2 more", x::number, 7);
        Check.due("free(0)", () -> x.free(0), -1);
        Check.same("twinned after it", Shelves.legs(x, 0), "-1/8 16/-1 -1/-1 -1/-1 -1/-1");
        Check.same("linear after it", Shelves.legs(x, 1), "9/-1 17/-1 -1/-1 -1/-1 -1/-1");
        Check.due("the volume keeps its elements", () -> x.volume(1, 2), 3);
        Check.due("read of the leg that is left", () -> x.read(0, 4), 44);
        Check.unsupported("read of a leg that is gone", () -> x.read(1, 8));
        Check.done("changes are no more refused", () -> x.delete(1));
        Check.due("number is 1 more", x::number, 8);
        Check.due("a disk that was dropped stays so", () -> Shelves.putIn(x, 0), 8);
        Check.due("free(0) when it is back", () -> x.free(0), -1);
        Check.due("it keeps the table before", () -> Math.max(x.look(0, 0, 0), x.look(0, 1, 0)), 5);
    }

    private static void promise4DropOneOfTwo() {
        ExtentShelf x = Shelves.with(4, 4, 4);
        Shelves.takeOut(x, 0);
        Shelves.takeOut(x, 1);
        Check.due("drop(1) while 0 is absent too", () -> x.drop(1), 0);
        Check.due("number", x::number, 5);
        Check.unsupported("a listed disk is still absent", () -> x.make(0, 1, 1));
        Check.due("drop(0)", () -> x.drop(0), 0);
        Check.due("number after both", x::number, 7);
        Check.due("make(0, 1, 1)", () -> x.make(0, 1, 1), 0);
        Check.due("only disk 2 is left", () -> x.where(0, 0, 0), 16);
    }

    private static void promise4DropRefuses() {
        ExtentShelf x = Shelves.with(4, 4);
        Check.badArgument("drop(-1)", () -> x.drop(-1));
        Check.badArgument("drop(4)", () -> x.drop(4));
        Check.unsupported("drop(0): present", () -> x.drop(0));
        Shelves.takeOut(x, 2);
        Check.unsupported("drop(2): absent, but not listed", () -> x.drop(2));
        Check.due("refused drops change nothing", x::number, 2);
        x.off();
        Check.badState("drop(4): power before argument", () -> x.drop(4));
    }

    private static void promise17Free() {
        ExtentShelf x = Shelves.with(4, 3);
        x.make(0, 1, 2);
        Check.due("free(0)", () -> x.free(0), 2);
        Check.due("free(1)", () -> x.free(1), 3);
        Check.due("free(2): not listed", () -> x.free(2), -1);
        x.empty(0);
        Check.due("a move that copies nothing takes nothing", () -> x.free(1), 3);
        x.step();
        Check.due("what is copied to is not free", () -> x.free(1), 2);
        Check.due("nor what is copied", () -> x.free(0), 2);
        x.step();
        x.step();
        x.step();
        Check.due("free(1) when it has moved", () -> x.free(1), 2);
        Check.due("free(0) when it has moved", () -> x.free(0), 3);
        Shelves.takeOut(x, 1);
        Check.due("free(1) of an absent disk", () -> x.free(1), 2);
    }

    private static void promise17FreeRefuses() {
        ExtentShelf x = Shelves.with(4);
        Check.badArgument("free(-1)", () -> x.free(-1));
        Check.badArgument("free(4)", () -> x.free(4));
        x.off();
        Check.badState("free(0) without power", () -> x.free(0));
        Check.badState("free(4): power before argument", () -> x.free(4));
    }

    private static void promise20Plug() {
        ExtentShelf x = Shelves.with(4, 4);
        Check.badState("plug(0, false) with power", () -> x.plug(0, false));
        Check.badState("plug(4, false): power before argument", () -> x.plug(4, false));
        x.off();
        Check.badArgument("plug(-1, false)", () -> x.plug(-1, false));
        Check.badArgument("plug(4, true)", () -> x.plug(4, true));
        Check.dueBoolean("plug(1, true)", () -> x.plug(1, true), false);
        Check.dueBoolean("plug(1, false)", () -> x.plug(1, false), true);
        Check.dueBoolean("plug(1, false) again", () -> x.plug(1, false), false);
        Check.dueBoolean("plug(1, true) again", () -> x.plug(1, true), true);
        Check.dueBoolean("plug(0, false)", () -> x.plug(0, false), true);
        x.start();
        Check.unsupported("disk 0 is absent", () -> x.make(0, 1, 1));
        Check.due("disk 1 is not", () -> x.drop(0), 0);
    }
}

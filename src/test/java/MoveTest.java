/** Promises 12 to 14: a disk that is emptied, step by step. */
public final class MoveTest {
    public static void main(String[] args) {
        promise12Empty();
        promise12EmptyRefuses();
        promise13StepMovesLegs();
        promise13StepCopiesAWord();
        promise13StepCutOff();
        promise13StepWithoutLegs();
        promise13StepWithoutRoom();
        promise13StepKeepsGroupsApart();
        promise13StepAfterALegWent();
        promise13StepTakesNewLegsToo();
        promise13StepRefuses();
        promise14Moving();
        Check.end();
    }

    private static void steps(ExtentShelf x, int n) {
        for (int i = 0; i < n; i++) {
            x.step();
        }
    }

    private static void promise12Empty() {
        ExtentShelf x = Shelves.with(4, 4);
        x.make(2, 1, 2);
        x.make(0, 1, 1);
        String before = Shelves.words(x, 0, 0) + Shelves.words(x, 0, 1) + Shelves.words(x, 1, 2);
        Check.due("empty(0)", () -> x.empty(0), 3);
        Check.due("moving()", x::moving, 0);
        Check.due("nothing is copied yet", () -> x.free(1), 2);
        Check.same("nothing is written",
                Shelves.words(x, 0, 0) + Shelves.words(x, 0, 1) + Shelves.words(x, 1, 2), before);
        ExtentShelf y = Shelves.with(4, 4);
        Check.due("empty(1) of a disk without legs", () -> y.empty(1), 0);
        Check.due("moving()", y::moving, 1);
    }

    private static void promise12EmptyRefuses() {
        ExtentShelf x = Shelves.with(4, 4);
        Check.badArgument("empty(-1)", () -> x.empty(-1));
        Check.badArgument("empty(4)", () -> x.empty(4));
        Check.unsupported("empty(2): not listed", () -> x.empty(2));
        x.empty(0);
        Check.unsupported("empty(1): a move is under way", () -> x.empty(1));
        Check.unsupported("empty(0): it is its move", () -> x.empty(0));
        Check.badArgument("empty(4): argument before that", () -> x.empty(4));
        Check.due("moving()", x::moving, 0);
        Shelves.takeOut(x, 1);
        Check.unsupported("empty(0): a listed disk is absent", () -> x.empty(0));
        Check.unsupported("empty(1): it is absent", () -> x.empty(1));
        x.off();
        Check.badState("empty(4): power first", () -> x.empty(4));
    }

    private static void promise13StepMovesLegs() {
        ExtentShelf x = Shelves.with(8, 3, 4);
        x.make(0, 1, 2);
        x.make(2, 1, 1);
        Check.same("linear", Shelves.legs(x, 0), "0/-1 1/-1 -1/-1 -1/-1 -1/-1");
        Check.same("twinned", Shelves.legs(x, 1), "2/16 -1/-1 -1/-1 -1/-1 -1/-1");
        for (int w = 0; w < 4; w++) {
            x.write(0, w, 10 + w);
            x.write(0, 4 + w, 20 + w);
            x.write(1, w, 30 + w);
        }
        x.empty(0);
        for (int i = 0; i < 3; i++) {
            Check.due("step()", x::step, 3);
            Check.due("where(0, 0, 0)", () -> x.where(0, 0, 0), 0);
        }
        Check.due("number before the fourth word", x::number, 5);
        Check.due("fourth step()", x::step, 2);
        Check.due("number after it", x::number, 6);
        Check.due("where(0, 0, 0) after it: 1 and 2 had three free", () -> x.where(0, 0, 0), 8);
        Check.due("its place in the table of disk 2", () -> x.look(2, 1, 9), 1 + 8);
        steps(x, 3);
        Check.due("eighth step()", x::step, 1);
        Check.due("where(0, 1, 0): 2 has most", () -> x.where(0, 1, 0), 17);
        steps(x, 3);
        Check.due("moving()", x::moving, 0);
        Check.due("last step()", x::step, 0);
        Check.due("where(1, 0, 0): not beside its twin", () -> x.where(1, 0, 0), 9);
        Check.due("the move has ended", x::moving, -1);
        Check.due("free(0)", () -> x.free(0), 8);
        for (int w = 0; w < 4; w++) {
            int word = w;
            Check.due("read(0, " + w + ")", () -> x.read(0, word), 10 + w);
            Check.due("read(0, " + (4 + w) + ")", () -> x.read(0, 4 + word), 20 + w);
            Check.due("read(1, " + w + ")", () -> x.read(1, word), 30 + w);
        }
    }

    private static void promise13StepCopiesAWord() {
        ExtentShelf x = Shelves.with(4, 3);
        x.make(0, 1, 1);
        for (int w = 0; w < 4; w++) {
            x.write(0, w, 5 + w);
        }
        x.empty(0);
        x.step();
        Check.same("one word", Shelves.words(x, 1, 2), "5 " + "0 ".repeat(31));
        x.write(0, 1, 66);
        x.step();
        Check.same("two, as it is then", Shelves.words(x, 1, 2), "5 66 " + "0 ".repeat(30));
        Check.due("its target is not free", () -> x.make(0, 1, 1), 1);
        Check.due("so another one is found", () -> x.where(1, 0, 0), 1);
        x.make(0, 1, 2);
        Check.due("on disk 1 place 0 is left out", () -> x.where(2, 1, 0), 9);
    }

    private static void promise13StepCutOff() {
        ExtentShelf x = Shelves.with(4, 3);
        x.make(0, 1, 1);
        x.write(0, 3, 9);
        x.empty(0);
        x.cut(3);
        steps(x, 3);
        Check.badState("step(): the fourth word is cut", x::step);
        Check.due("moves end without power", x::moving, -1);
        Check.due("start()", x::start, 3);
        Check.due("where(0, 0, 0)", () -> x.where(0, 0, 0), 0);
        Check.due("free(1)", () -> x.free(1), 3);
        Check.due("empty(0) again", () -> x.empty(0), 1);
        x.cut(4 + 51);
        steps(x, 3);
        Check.badState("step(): cut behind the first table", x::step);
        Check.due("start() has it wholly", x::start, 4);
        Check.due("where(0, 0, 0) after it", () -> x.where(0, 0, 0), 8);
        Check.due("read(0, 3)", () -> x.read(0, 3), 9);
    }

    private static void promise13StepWithoutLegs() {
        ExtentShelf x = Shelves.with(4, 4);
        x.empty(0);
        x.cut(0);
        Check.due("step()", x::step, 0);
        Check.due("the move has ended", x::moving, -1);
        Check.unsupported("step() again", x::step);
        Check.due("nothing was written", x::number, 2);
    }

    private static void promise13StepWithoutRoom() {
        ExtentShelf x = Shelves.with(4, 2);
        x.make(0, 1, 5);
        Check.same("linear", Shelves.legs(x, 0), "0/-1 1/-1 2/-1 8/-1 3/-1");
        x.empty(0);
        steps(x, 4);
        Check.due("where(0, 0, 0)", () -> x.where(0, 0, 0), 9);
        Check.due("step() without room", x::step, -1);
        Check.due("the move has ended", x::moving, -1);
        Check.same("what has moved stays", Shelves.legs(x, 0), "9/-1 1/-1 2/-1 8/-1 3/-1");
        Check.unsupported("step() again", x::step);
        Check.due("empty(0) again", () -> x.empty(0), 3);
        ExtentShelf one = Shelves.with(4);
        one.make(0, 1, 1);
        one.empty(0);
        Check.due("step() of the only disk", one::step, -1);
    }

    private static void promise13StepKeepsGroupsApart() {
        ExtentShelf x = Shelves.with(4, 4, 4, 2);
        x.make(1, 3, 3);
        Check.same("striped", Shelves.legs(x, 0), "0/-1 8/-1 16/-1 -1/-1 -1/-1");
        x.empty(1);
        steps(x, 4);
        Check.same("only disk 3 is without a column", Shelves.legs(x, 0), "0/-1 24/-1 16/-1 -1/-1 -1/-1");
        ExtentShelf y = Shelves.with(4, 4);
        y.make(2, 1, 1);
        y.empty(1);
        Check.due("step(): the twin is on the only other disk", y::step, -1);
        ExtentShelf z = Shelves.with(2, 4, 3);
        z.make(1, 2, 4);
        Check.same("two groups", Shelves.legs(z, 0), "8/-1 16/-1 9/-1 0/-1 -1/-1");
        z.empty(1);
        steps(z, 4);
        Check.due("a group keeps off its own disks only", () -> z.where(0, 0, 0), 1);
        steps(z, 4);
        Check.due("the other group too", () -> z.where(0, 2, 0), 17);
    }

    private static void promise13StepAfterALegWent() {
        ExtentShelf x = Shelves.with(4, 3);
        x.make(0, 1, 1);
        x.make(0, 1, 2);
        Check.same("1", Shelves.legs(x, 1), "1/-1 8/-1 -1/-1 -1/-1 -1/-1");
        x.write(1, 0, 77);
        x.empty(0);
        steps(x, 2);
        Check.due("free(1) while it is copied", () -> x.free(1), 1);
        x.delete(0);
        Check.due("free(1) when its volume went", () -> x.free(1), 2);
        Check.due("the move goes on", x::moving, 0);
        steps(x, 3);
        Check.due("from word 0 on", () -> x.where(1, 0, 0), 1);
        Check.due("step()", x::step, 0);
        Check.due("where(1, 0, 0)", () -> x.where(1, 0, 0), 9);
        Check.due("read(1, 0)", () -> x.read(1, 0), 77);

        ExtentShelf y = Shelves.with(4, 4);
        y.make(0, 1, 3);
        Check.same("linear", Shelves.legs(y, 0), "0/-1 8/-1 1/-1 -1/-1 -1/-1");
        y.empty(0);
        steps(y, 6);
        y.shrink(0, 2);
        Check.due("free(1) when its element went", () -> y.free(1), 2);
        Check.due("step(): no leg is left", y::step, 0);
        Check.due("the move has ended", y::moving, -1);

        ExtentShelf z = Shelves.with(4, 4);
        z.make(0, 1, 3);
        z.empty(0);
        z.step();
        z.shrink(0, 1);
        Check.due("another element that went", () -> z.free(1), 3);
        Check.due("free(0)", () -> z.free(0), 3);
        steps(z, 2);
        Check.due("does not end the copying", z::step, 0);
    }

    private static void promise13StepTakesNewLegsToo() {
        ExtentShelf x = Shelves.with(8, 8);
        x.make(0, 1, 1);
        x.make(0, 1, 3);
        Check.same("1", Shelves.legs(x, 1), "8/-1 1/-1 9/-1 -1/-1 -1/-1");
        x.delete(0);
        x.empty(0);
        x.step();
        Check.due("make(0, 1, 1)", () -> x.make(0, 1, 1), 0);
        Check.due("on the disk that is moved", () -> x.where(0, 0, 0), 0);
        steps(x, 2);
        Check.due("what is being copied goes first", x::step, 1);
        Check.due("where(1, 1, 0)", () -> x.where(1, 1, 0), 10);
        steps(x, 3);
        Check.due("step()", x::step, 0);
        Check.due("where(0, 0, 0)", () -> x.where(0, 0, 0), 11);
    }

    private static void promise13StepRefuses() {
        ExtentShelf x = Shelves.with(4, 4);
        Check.unsupported("step() without a move", x::step);
        x.off();
        Check.badState("step() without power", x::step);
    }

    private static void promise14Moving() {
        ExtentShelf x = Shelves.with(4, 4);
        x.make(0, 1, 1);
        Check.due("moving()", x::moving, -1);
        x.empty(1);
        Check.due("moving() of disk 1", x::moving, 1);
        x.step();
        Check.due("moving() at its end", x::moving, -1);
        x.empty(0);
        x.step();
        Check.due("moving() of disk 0", x::moving, 0);
        x.off();
        Check.due("moving() without power", x::moving, -1);
        x.start();
        Check.due("moving() after start()", x::moving, -1);
        Check.due("free(1): nothing is copied any more", () -> x.free(1), 4);
    }
}

import java.util.function.Consumer;

/** The boundary cases of power that goes off and comes on: what ends, what is found, and what is written then. */
public final class PowerEdgesTest {
    public static void main(String[] args) {
        movesEndWhenThePowerGoesOff();
        movesEndWhenItIsCutOff();
        whatWasWrittenBeforeStays();
        theGreatestNumberOfBothSlots();
        theGreatestNumberOfPresentDisksOnly();
        ofSeveralTheLeastDisks();
        aDiskThatIsListedNoMoreCounts();
        withoutAWholeSlotItIsTheBeginning();
        aNewBeginningIsForgottenForAGreaterNumber();
        itIsWrittenToADiskWithoutAWholeSlot();
        itIsWrittenOverTheLesserNumber();
        itIsWrittenOverASlotThatIsNotWhole();
        itIsNotWrittenWhereItIs();
        itIsNotWrittenToDisksThatAreNotListedOrAbsent();
        itIsWrittenUnchangedWhileAListedDiskIsAbsent();
        eachWordOfLeg1BecomesThatOfLeg0();
        notWhereOneLegCanNotBeRead();
        onlyTwinsBecomeTheSame();
        twinsThatWereWrittenApart();
        startAgainAndAgainIsTheSame();
        Check.end();
    }

    private static void movesEndWhenThePowerGoesOff() {
        ExtentShelf x = Shelves.with(4, 3);
        x.make(0, 1, 1);
        x.empty(0);
        x.step();
        Check.due("free(1) in the move", () -> x.free(1), 2);
        x.off();
        Check.due("moving() without power", x::moving, -1);
        x.start();
        Check.due("moving()", x::moving, -1);
        Check.due("free(1)", () -> x.free(1), 3);
        Check.unsupported("step()", x::step);
        x.write(0, 0, 9);
        Check.due("nothing goes to what was copied to", () -> x.look(1, 2, 0), 0);
        Check.due("empty(1): another move may begin", () -> x.empty(1), 0);
    }

    private static void movesEndWhenItIsCutOff() {
        cutOffInAMove("write(0, 3, 1)", 0, x -> x.write(0, 3, 1));
        cutOffInAMove("step()", 0, x -> x.step());
        cutOffInAMove("make(0, 1, 1)", 3, x -> x.make(0, 1, 1));
        cutOffInAMove("grow(0, 1)", 4 + 50, x -> x.grow(0, 1));
        cutOffInAMove("add(2, 2)", 51, x -> x.add(2, 2));
        cutOffInAMove("delete(0)", 100, x -> x.delete(0));
    }

    private static void cutOffInAMove(String call, int words, Consumer<ExtentShelf> action) {
        ExtentShelf x = Shelves.with(4, 3);
        x.make(0, 1, 1);
        x.empty(0);
        x.step();
        x.cut(words);
        Check.badState(call, () -> action.accept(x));
        Check.due("moving() after " + call, x::moving, -1);
        x.start();
        Check.due("moving() when the power is on", x::moving, -1);
        Check.due("free(1)", () -> x.free(1), 3);
        Check.unsupported("step()", x::step);
    }

    private static void whatWasWrittenBeforeStays() {
        ExtentShelf x = Shelves.with(4, 4);
        x.make(2, 1, 1);
        x.cut(1);
        Check.badState("write(0, 2, 5): one leg", () -> x.write(0, 2, 5));
        Check.same("leg 0 and leg 1", x.look(0, 2, 2) + " " + x.look(1, 2, 2), "5 0");
        x.plug(1, false);
        x.start();
        Check.due("read(0, 2) of leg 0", () -> x.read(0, 2), 5);
    }

    private static void theGreatestNumberOfBothSlots() {
        ExtentShelf x = Shelves.with(2);
        for (int i = 1; i <= 6; i++) {
            int number = i;
            Check.due("start() after " + i + " changes", () -> Shelves.restart(x), number);
            Check.due("in slot " + (i + 1) % 2, () -> x.look(0, (number + 1) % 2, 0), number);
            if (i % 2 == 1) {
                x.make(0, 1, 1);
            } else {
                x.delete(0);
            }
        }
    }

    private static void theGreatestNumberOfPresentDisksOnly() {
        ExtentShelf x = Shelves.with(4, 4, 4);
        x.make(2, 1, 1);
        Shelves.takeOut(x, 0);
        x.write(0, 0, 1);
        Check.due("number() of 1 and 2", x::number, 6);
        x.off();
        x.plug(0, true);
        x.plug(1, false);
        x.plug(2, false);
        Check.due("start() with disk 0 alone", x::start, 4);
        Check.same("leg 0 is not gone for it", Shelves.legs(x, 0), "0/8 -1/-1 -1/-1 -1/-1 -1/-1");
        x.off();
        x.plug(2, true);
        Check.due("start() with disk 2", x::start, 6);
        Check.same("leg 0 is gone", Shelves.legs(x, 0), "-1/8 -1/-1 -1/-1 -1/-1 -1/-1");
        Check.due("disk 0 has that now", () -> Math.max(x.look(0, 0, 50), x.look(0, 1, 50)), 6);
    }

    /** Two disks come by the same number with other tables: each is dropped while the other one is there alone. */
    private static ExtentShelf apart(int d, int e) {
        ExtentShelf x = new ExtentShelf();
        x.add(d, 4);
        x.add(e, 5);
        Shelves.takeOut(x, e);
        x.drop(e);
        x.off();
        x.plug(d, false);
        x.plug(e, true);
        x.start();
        x.drop(d);
        return x;
    }

    private static void ofSeveralTheLeastDisks() {
        for (int d = 0; d < 4; d++) {
            for (int e = 0; e < 4; e++) {
                if (d != e) {
                    ExtentShelf x = apart(d, e);
                    int least = Math.min(d, e);
                    int other = Math.max(d, e);
                    int extents = least == d ? 4 : 5;
                    int first = d;
                    Check.due("number()", x::number, 4);
                    Check.due("start() with " + d + " and " + e, () -> Shelves.putIn(x, first), 4);
                    Check.due("the least one's table", () -> x.free(least), extents);
                    Check.due("which does not list the other one", () -> x.free(other), -1);
                }
            }
        }
    }

    private static void aDiskThatIsListedNoMoreCounts() {
        ExtentShelf x = Shelves.with(4, 4);
        x.remove(0);
        x.make(0, 1, 1);
        Check.due("start() with both", () -> Shelves.restart(x), 4);
        Check.due("start() with the removed one alone", () -> Shelves.takeOut(x, 1), 2);
        Check.due("it lists itself", () -> x.free(0), 4);
        Check.due("and the absent one", () -> x.free(1), 4);
        Check.due("drop(1)", () -> x.drop(1), 0);
        Check.due("number()", x::number, 4);
        Check.due("start() with both: the same number, the least disk", () -> Shelves.putIn(x, 1), 4);
        Check.noElement("volume(0, 0) of disk 1", () -> x.volume(0, 0));
    }

    private static void withoutAWholeSlotItIsTheBeginning() {
        ExtentShelf x = Shelves.with(4, 4);
        x.make(0, 1, 2);
        x.off();
        for (int d = 0; d < 4; d++) {
            x.plug(d, false);
        }
        Check.due("start() without any disk", x::start, 0);
        Check.due("number()", x::number, 0);
        for (int d = 0; d < 4; d++) {
            int disk = d;
            Check.due("free(" + d + ")", () -> x.free(disk), -1);
            Check.noElement("volume(" + d + ", 0)", () -> x.volume(disk, 0));
            Check.unsupported("add(" + d + ", 4)", () -> x.add(disk, 4));
            Check.unsupported("drop(" + d + ")", () -> x.drop(disk));
            Check.unsupported("empty(" + d + ")", () -> x.empty(disk));
        }
        Check.unsupported("make(0, 1, 1)", () -> x.make(0, 1, 1));
        x.off();
        x.plug(0, true);
        Check.due("start() with disk 0", x::start, 3);
        Check.due("volume(0, 2)", () -> x.volume(0, 2), 2);
    }

    private static void aNewBeginningIsForgottenForAGreaterNumber() {
        ExtentShelf x = Shelves.with(4, 4);
        x.off();
        x.plug(0, false);
        x.plug(1, false);
        Check.due("start() without both", x::start, 0);
        Check.done("add(2, 8)", () -> x.add(2, 8));
        Check.due("number()", x::number, 1);
        Check.due("start() with disk 1", () -> Shelves.putIn(x, 1), 2);
        Check.due("free(2)", () -> x.free(2), -1);
        Check.due("free(0)", () -> x.free(0), 4);
    }

    private static void itIsWrittenToADiskWithoutAWholeSlot() {
        for (int n = 51; n < 102; n++) {
            ExtentShelf x = Shelves.with(4);
            x.cut(n);
            Check.badState("add(1, 5): disk 0 has the table alone", () -> x.add(1, 5));
            Check.due("start()", x::start, 2);
            TableWords table = new TableWords(2, 4, 5);
            Check.same("disk 1, slot 0", Shelves.words(x, 1, 0), table.text());
            Check.same("disk 1, slot 1", Shelves.words(x, 1, 1), "0 ".repeat(51));
            Check.due("start() with disk 1 alone", () -> Shelves.takeOut(x, 0), 2);
        }
    }

    private static void itIsWrittenOverTheLesserNumber() {
        for (int more = 0; more < 2; more++) {
            ExtentShelf x = Shelves.with(4, 4);
            x.make(2, 1, 1);
            if (more == 1) {
                x.make(0, 1, 1);
            }
            int number = x.number();
            int greater = x.look(1, 0, 0) == number ? 0 : 1;
            String kept = Shelves.words(x, 1, greater);
            Shelves.takeOut(x, 1);
            x.write(0, 0, 1);
            Check.due("start() with disk 1", () -> Shelves.putIn(x, 1), number + 2);
            Check.same("its greater number stays", Shelves.words(x, 1, greater), kept);
            Check.due("its lesser one went", () -> x.look(1, 1 - greater, 50), number + 2);
        }
    }

    private static void itIsWrittenOverASlotThatIsNotWhole() {
        for (int n = 0; n < 51; n++) {
            ExtentShelf x = Shelves.with(4, 4);
            x.make(2, 1, 1);
            Check.same("numbers of disk 1", x.look(1, 0, 0) + " " + x.look(1, 1, 0), "2 3");
            x.cut(51 + n);
            Check.badState("delete(0): disk 0 has the table alone", () -> x.delete(0));
            Check.due("start()", x::start, 4);
            Check.same("disk 1, slot 0", Shelves.words(x, 1, 0), new TableWords(4, 4, 4).text());
            Check.due("disk 1, slot 1", () -> x.look(1, 1, 50), 3);
        }
    }

    private static void itIsNotWrittenWhereItIs() {
        ExtentShelf x = Shelves.with(4, 4, 4);
        x.make(2, 1, 2);
        String before = Shelves.all(x);
        Check.due("start()", () -> Shelves.restart(x), 4);
        Check.same("all is as before", Shelves.all(x), before);
        x.make(0, 1, 1);
        before = Shelves.all(x);
        Check.due("start() with the table in the other slots", () -> Shelves.restart(x), 5);
        Check.same("all is as before again", Shelves.all(x), before);
    }

    private static void itIsNotWrittenToDisksThatAreNotListedOrAbsent() {
        ExtentShelf x = Shelves.with(4, 4, 4);
        x.make(2, 1, 1);
        x.remove(2);
        Shelves.takeOut(x, 1);
        x.write(0, 0, 1);
        String absent = Shelves.words(x, 1, 0) + Shelves.words(x, 1, 1);
        String removed = Shelves.words(x, 2, 0) + Shelves.words(x, 2, 1);
        Check.due("start()", () -> Shelves.restart(x), 7);
        Check.same("the absent one", Shelves.words(x, 1, 0) + Shelves.words(x, 1, 1), absent);
        Check.same("the one not listed", Shelves.words(x, 2, 0) + Shelves.words(x, 2, 1), removed);
        Check.same("the one never listed", Shelves.words(x, 3, 0) + Shelves.words(x, 3, 1), "0 ".repeat(102));
    }

    /** It is no change: its number stays, though a listed disk is absent. */
    private static void itIsWrittenUnchangedWhileAListedDiskIsAbsent() {
        ExtentShelf x = Shelves.with(4, 4, 4);
        x.cut(4 + 51 + 20);
        Check.badState("make(0, 1, 1): disk 0 has the table, half of it disk 1", () -> x.make(0, 1, 1));
        x.plug(2, false);
        Check.due("start() without disk 2", x::start, 4);
        Check.due("disk 1 has it", () -> Math.max(x.look(1, 0, 50), x.look(1, 1, 50)), 4);
        Check.due("disk 2 has not", () -> Math.max(x.look(2, 0, 50), x.look(2, 1, 50)), 3);
        Check.due("start() with it", () -> Shelves.putIn(x, 2), 4);
        Check.due("disk 2 has it", () -> Math.max(x.look(2, 0, 50), x.look(2, 1, 50)), 4);
    }

    private static void eachWordOfLeg1BecomesThatOfLeg0() {
        for (int w = 0; w < 20; w++) {
            ExtentShelf x = Shelves.with(5, 5);
            x.make(2, 1, 5);
            for (int i = 0; i < 20; i++) {
                x.write(0, i, 100 + i);
            }
            x.cut(1);
            int word = w;
            Check.badState("write(0, " + w + ", -1): leg 0 alone", () -> x.write(0, word, -1));
            Check.due("leg 1 before", () -> x.look(1, 2, word), 100 + word);
            x.start();
            Check.due("leg 1 after", () -> x.look(1, 2, word), -1);
            Check.same("both are the same", Shelves.words(x, 1, 2), Shelves.words(x, 0, 2));
        }
    }

    private static void notWhereOneLegCanNotBeRead() {
        ExtentShelf x = Shelves.with(4, 4);
        x.make(2, 1, 1);
        x.write(0, 0, 5);
        x.cut(1);
        Check.badState("write(0, 0, 6): leg 0 alone", () -> x.write(0, 0, 6));
        x.plug(0, false);
        x.start();
        Check.due("leg 0 is absent: leg 1 stays", () -> x.look(1, 2, 0), 5);
        Check.due("and is read", () -> x.read(0, 0), 5);
        x.off();
        x.plug(0, true);
        x.plug(1, false);
        x.start();
        Check.due("leg 1 is absent: it stays", () -> x.look(1, 2, 0), 5);
        Check.due("leg 0 is read", () -> x.read(0, 0), 6);
        x.write(0, 1, 7);
        Shelves.putIn(x, 1);
        Check.due("leg 1 is gone: what was there stays", () -> x.look(1, 2, 0), 5);
        Check.due("where(0, 0, 1)", () -> x.where(0, 0, 1), -1);
    }

    private static void onlyTwinsBecomeTheSame() {
        ExtentShelf x = Shelves.with(4, 4);
        x.make(0, 1, 2);
        x.make(1, 2, 2);
        for (int w = 0; w < 8; w++) {
            x.write(0, w, 10 + w);
            x.write(1, w, 20 + w);
        }
        String before = Shelves.all(x);
        Shelves.restart(x);
        Check.same("linear and striped ones stay", Shelves.all(x), before);
    }

    /** Each of two disks is written alone; of the table that is found an element has both legs still. */
    private static void twinsThatWereWrittenApart() {
        ExtentShelf x = Shelves.with(4, 4);
        x.make(2, 1, 2);
        Shelves.takeOut(x, 1);
        x.write(0, 0, 5);
        x.off();
        x.plug(0, false);
        x.plug(1, true);
        Check.due("start() with disk 1 alone", x::start, 3);
        x.write(0, 4, 7);
        Check.same("disk 1's table", Shelves.legs(x, 0), "0/8 -1/9 -1/-1 -1/-1 -1/-1");
        Check.due("its number", x::number, 5);
        Check.due("start() with both", () -> Shelves.putIn(x, 0), 5);
        Check.same("disk 0's table", Shelves.legs(x, 0), "0/-1 1/9 -1/-1 -1/-1 -1/-1");
        Check.due("read(0, 0)", () -> x.read(0, 0), 5);
        Check.due("read(0, 4) of leg 0", () -> x.read(0, 4), 0);
        Check.due("leg 1 has become that", () -> x.look(1, 2, 4), 0);
    }

    private static void startAgainAndAgainIsTheSame() {
        ExtentShelf x = Shelves.with(4, 4, 4);
        x.make(2, 1, 3);
        x.cut(70);
        Check.badState("grow(0, 1) with 70 words", () -> x.grow(0, 1));
        x.start();
        String first = Shelves.all(x);
        for (int i = 0; i < 5; i++) {
            Shelves.restart(x);
            Check.same("start() again", Shelves.all(x), first);
        }
    }
}

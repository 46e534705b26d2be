/** The boundary cases of finding room, of words that can be read and written, and of copies that end. */
public final class RoomEdgesTest {
    public static void main(String[] args) {
        theDiskWithTheMostFreeExtents();
        ofSeveralTheLeastDisk();
        theLeastFreePlace();
        aFullDiskIsLeftOut();
        aDiskThatIsNotListedIsLeftOut();
        theLastFreeExtentIsRoom();
        columnsAreOnDisksOfTheirOwn();
        twinsAreOnDisksOfTheirOwn();
        anElementOfALinearVolumeIsAlone();
        groupsMayShareTheirDisks();
        roomIsFoundForOneLegAfterTheOther();
        whatIsCopiedToIsNotFree();
        aDiskThatTheTwinIsCopiedToIsLeftOut();
        aLegThatIsMovedIsNotFoundRoomOnItsDisk();
        eachLegIsMovedAwayFromItsTwin();
        aLegThatIsGoneKeepsNoDisk();
        itIsReadOfTheLeastLegThatCanBe();
        itIsWrittenToAllLegsThatCanBe();
        anAbsentColumnIsNoChange();
        aLegOnAnAbsentDiskIsGoneFirst();
        legsAreMovedByVolumesElementsAndLegs();
        aCopyBeginsAtWord0();
        aCopyEndsWithItsVolume();
        aCopyEndsWithItsElement();
        aCopyGoesOnWithoutOtherElements();
        aCopyGoesOnThroughOtherChanges();
        Check.end();
    }

    private static void steps(ExtentShelf x, int n) {
        for (int i = 0; i < n; i++) {
            x.step();
        }
    }

    private static void theDiskWithTheMostFreeExtents() {
        for (int most = 0; most < 4; most++) {
            int[] extents = {7, 7, 7, 7};
            extents[most] = 8;
            ExtentShelf x = Shelves.with(extents);
            x.make(0, 1, 1);
            int disk = most;
            Check.due("most on disk " + most, () -> x.where(0, 0, 0), 8 * disk);
        }
        ExtentShelf x = Shelves.with(2, 8);
        x.make(0, 1, 5);
        x.make(0, 1, 1);
        Check.due("one more free than on disk 0", () -> x.where(1, 0, 0), 8 + 5);
        x.grow(1, 1);
        Check.due("as many free as on disk 0", () -> x.where(1, 1, 0), 0);
        x.grow(1, 1);
        Check.due("one more free again", () -> x.where(1, 2, 0), 8 + 6);
    }

    private static void ofSeveralTheLeastDisk() {
        ExtentShelf x = Shelves.with(0, 3, 2, 3);
        x.make(0, 1, 5);
        Check.same("3 2 3, 2 2 3, 2 2 2, 1 2 2, 1 1 2", Shelves.legs(x, 0), "8/-1 24/-1 9/-1 16/-1 25/-1");
    }

    private static void theLeastFreePlace() {
        ExtentShelf x = Shelves.with(8);
        for (int v = 0; v < 4; v++) {
            x.make(0, 1, 1);
        }
        x.delete(2);
        x.delete(0);
        x.grow(3, 1);
        Check.due("place 0", () -> x.where(3, 1, 0), 0);
        x.grow(3, 1);
        Check.due("place 2", () -> x.where(3, 2, 0), 2);
        x.grow(3, 1);
        Check.due("place 4", () -> x.where(3, 3, 0), 4);
    }

    private static void aFullDiskIsLeftOut() {
        ExtentShelf x = Shelves.with(2, 4);
        x.make(0, 1, 5);
        Check.same("4, 3 and 2, then one here and there", Shelves.legs(x, 0), "8/-1 9/-1 0/-1 10/-1 1/-1");
        Check.due("free(0)", () -> x.free(0), 0);
        Check.due("make(0, 1, 1)", () -> x.make(0, 1, 1), 1);
        Check.due("on the other disk", () -> x.where(1, 0, 0), 11);
        Check.unsupported("grow(1, 1): both are full", () -> x.grow(1, 1));
    }

    private static void aDiskThatIsNotListedIsLeftOut() {
        ExtentShelf x = Shelves.with(8, 2);
        x.remove(0);
        x.make(0, 1, 2);
        Check.same("disk 1 alone", Shelves.legs(x, 0), "8/-1 9/-1 -1/-1 -1/-1 -1/-1");
        Check.unsupported("grow(0, 1)", () -> x.grow(0, 1));
        x.add(0, 2);
        Check.due("grow(0, 2) when it is listed again", () -> x.grow(0, 2), 4);
    }

    private static void theLastFreeExtentIsRoom() {
        ExtentShelf x = Shelves.with(3, 2);
        Check.due("make(0, 1, 5) takes all", () -> x.make(0, 1, 5), 0);
        Check.unsupported("make(0, 1, 1)", () -> x.make(0, 1, 1));
        x.shrink(0, 4);
        Check.unsupported("make(0, 1, 2)", () -> x.make(0, 1, 2));
        Check.due("make(0, 1, 1)", () -> x.make(0, 1, 1), 1);
        Check.due("free(0)", () -> x.free(0), 0);
        Check.due("free(1)", () -> x.free(1), 0);
    }

    private static void columnsAreOnDisksOfTheirOwn() {
        ExtentShelf x = Shelves.with(8, 8, 2);
        Check.due("make(1, 3, 3)", () -> x.make(1, 3, 3), 0);
        Check.due("make(1, 3, 3)", () -> x.make(1, 3, 3), 1);
        Check.same("each on three disks", Shelves.legs(x, 0) + " " + Shelves.legs(x, 1),
                "0/-1 8/-1 16/-1 -1/-1 -1/-1 1/-1 9/-1 17/-1 -1/-1 -1/-1");
        Check.unsupported("make(1, 3, 3): disk 2 is full", () -> x.make(1, 3, 3));
        Check.due("make(1, 2, 4) needs two disks only", () -> x.make(1, 2, 4), 2);
        ExtentShelf two = Shelves.with(8, 8);
        Check.unsupported("make(1, 3, 3) on two disks", () -> two.make(1, 3, 3));
        ExtentShelf one = Shelves.with(8);
        Check.unsupported("make(1, 2, 2) on one disk", () -> one.make(1, 2, 2));
    }

    private static void twinsAreOnDisksOfTheirOwn() {
        ExtentShelf x = Shelves.with(8, 2);
        Check.unsupported("make(2, 1, 3): two twins have room", () -> x.make(2, 1, 3));
        Check.due("make(2, 1, 2)", () -> x.make(2, 1, 2), 0);
        Check.same("each on both", Shelves.legs(x, 0), "0/8 1/9 -1/-1 -1/-1 -1/-1");
        Check.unsupported("grow(0, 1): disk 1 is full", () -> x.grow(0, 1));
        ExtentShelf one = Shelves.with(8);
        Check.unsupported("make(2, 1, 1) on one disk", () -> one.make(2, 1, 1));
        ExtentShelf most = Shelves.with(5, 5);
        Check.due("make(2, 1, 5) takes all of two disks", () -> most.make(2, 1, 5), 0);
        Check.same("five twins", Shelves.legs(most, 0), "0/8 1/9 2/10 3/11 4/12");
    }

    private static void anElementOfALinearVolumeIsAlone() {
        ExtentShelf x = Shelves.with(5);
        Check.due("make(0, 1, 5) on one disk", () -> x.make(0, 1, 5), 0);
        Check.same("all on it", Shelves.legs(x, 0), "0/-1 1/-1 2/-1 3/-1 4/-1");
    }

    private static void groupsMayShareTheirDisks() {
        ExtentShelf x = Shelves.with(2, 2);
        Check.due("make(1, 2, 4)", () -> x.make(1, 2, 4), 0);
        Check.same("two groups on two disks", Shelves.legs(x, 0), "0/-1 8/-1 1/-1 9/-1 -1/-1");
        ExtentShelf y = Shelves.with(2, 2);
        y.make(1, 2, 2);
        Check.due("grow(0, 2)", () -> y.grow(0, 2), 4);
        Check.same("the group that is new", Shelves.legs(y, 0), "0/-1 8/-1 1/-1 9/-1 -1/-1");
    }

    private static void roomIsFoundForOneLegAfterTheOther() {
        ExtentShelf x = Shelves.with(3, 4, 2);
        x.make(2, 1, 4);
        Check.same("what is found counts for the next", Shelves.legs(x, 0), "8/0 9/1 10/16 2/11 -1/-1");
        Check.due("make(0, 1, 1)", () -> x.make(0, 1, 1), 1);
        Check.due("the last one", () -> x.where(1, 0, 0), 17);
    }

    private static void whatIsCopiedToIsNotFree() {
        ExtentShelf x = Shelves.with(2, 2);
        x.make(0, 1, 2);
        x.empty(0);
        Check.due("free(1) before the first step", () -> x.free(1), 1);
        x.step();
        Check.due("free(1) after it", () -> x.free(1), 0);
        Check.due("make(0, 1, 1)", () -> x.make(0, 1, 1), 1);
        Check.due("on the disk that is moved", () -> x.where(1, 0, 0), 1);
        Check.unsupported("make(0, 1, 1): only what is copied to is left", () -> x.make(0, 1, 1));
        Check.unsupported("grow(0, 1): likewise", () -> x.grow(0, 1));
        Shelves.restart(x);
        Check.due("free(1) when the move has ended", () -> x.free(1), 1);
        Check.due("make(0, 1, 1) then", () -> x.make(0, 1, 1), 2);
        Check.due("where it was copied to", () -> x.where(2, 0, 0), 9);
    }

    private static ExtentShelf oneTwinLost() {
        ExtentShelf x = Shelves.with(4, 4, 3);
        x.make(2, 1, 1);
        Shelves.takeOut(x, 1);
        x.drop(1);
        Check.same("leg 1 is gone", Shelves.legs(x, 0), "0/-1 -1/-1 -1/-1 -1/-1 -1/-1");
        return x;
    }

    private static void aDiskThatTheTwinIsCopiedToIsLeftOut() {
        ExtentShelf x = oneTwinLost();
        x.empty(0);
        Check.due("mend(0) before anything is copied", () -> x.mend(0), 1);
        Check.due("on disk 2", () -> x.where(0, 0, 1), 16);
        Check.due("then there is no room to move to", x::step, -1);

        ExtentShelf y = oneTwinLost();
        y.empty(0);
        y.step();
        Check.due("disk 2 has room still", () -> y.free(2), 2);
        Check.unsupported("mend(0): leg 0 is being copied there", () -> y.mend(0));
        steps(y, 2);
        Check.due("the fourth step()", y::step, 0);
        Check.due("mend(0) when it has moved", () -> y.mend(0), 1);
        Check.same("disk 0 is free for it", Shelves.legs(y, 0), "16/0 -1/-1 -1/-1 -1/-1 -1/-1");
    }

    private static void aLegThatIsMovedIsNotFoundRoomOnItsDisk() {
        ExtentShelf x = Shelves.with(8, 2);
        x.make(0, 1, 1);
        x.empty(0);
        steps(x, 4);
        Check.due("disk 1, though disk 0 has more", () -> x.where(0, 0, 0), 8);
        ExtentShelf y = Shelves.with(4, 4, 4);
        y.make(1, 3, 3);
        y.empty(0);
        Check.due("step(): the other disks have a column each", y::step, -1);
        ExtentShelf one = Shelves.with(8);
        one.make(0, 1, 1);
        one.empty(0);
        Check.due("step(): there is no other disk", one::step, -1);
    }

    /** The disk of the twins has always room, and mostly the most of it. */
    private static void eachLegIsMovedAwayFromItsTwin() {
        String[] due = {"16/9 17/10 3/11 -1/-1 -1/-1", "1/16 2/17 3/11 -1/-1 -1/-1"};
        for (int d = 0; d < 2; d++) {
            ExtentShelf x = Shelves.with(5, 5);
            x.make(0, 1, 2);
            x.make(2, 1, 3);
            x.delete(0);
            x.add(2, 2);
            Check.same("twins", Shelves.legs(x, 1), "1/9 2/10 3/11 -1/-1 -1/-1");
            Check.due("free() of the other disk", () -> Math.min(x.free(0), x.free(1)), 2);
            x.empty(d);
            steps(x, 2 * 4);
            Check.same("two have moved", Shelves.legs(x, 1), due[d]);
            Check.due("step(): only the disk of its twin has room", x::step, -1);
        }
    }

    private static void aLegThatIsGoneKeepsNoDisk() {
        ExtentShelf x = oneTwinLost();
        Shelves.putIn(x, 1);
        x.add(1, 8);
        x.empty(0);
        steps(x, 4);
        Check.due("disk 1 may have leg 0 now", () -> x.where(0, 0, 0), 8);
    }

    private static void itIsReadOfTheLeastLegThatCanBe() {
        ExtentShelf x = Shelves.with(4, 4, 4);
        x.make(2, 1, 1);
        x.write(0, 0, 7);
        Check.due("both legs", () -> x.read(0, 0), 7);
        Shelves.takeOut(x, 0);
        Check.due("leg 0 is absent", () -> x.read(0, 0), 7);
        x.write(0, 0, 8);
        Shelves.putIn(x, 0);
        Check.due("leg 0 is gone, though its disk has a word", () -> x.read(0, 0), 8);
        Check.due("that word", () -> x.look(0, 2, 0), 7);
        x.mend(0);
        Check.due("leg 0 is there again", () -> x.read(0, 0), 8);
        Shelves.takeOut(x, 1);
        Check.due("leg 1 is absent", () -> x.read(0, 0), 8);
        Shelves.takeOut(x, x.where(0, 0, 0) / 8);
        Check.unsupported("both are absent", () -> x.read(0, 0));
    }

    private static void itIsWrittenToAllLegsThatCanBe() {
        ExtentShelf x = Shelves.with(4, 4, 4);
        x.make(2, 1, 1);
        x.make(0, 1, 1);
        x.make(1, 2, 2);
        Check.due("both legs", () -> x.write(0, 0, 1), 2);
        Check.due("linear", () -> x.write(1, 0, 1), 1);
        Check.due("striped", () -> x.write(2, 0, 1), 1);
        Shelves.takeOut(x, 1);
        Check.due("leg 1 is absent", () -> x.write(0, 0, 2), 1);
        x.drop(1);
        Check.due("leg 1 is gone", () -> x.write(0, 0, 3), 1);
        x.mend(0);
        Check.due("leg 1 is there again", () -> x.write(0, 0, 4), 2);
    }

    private static void anAbsentColumnIsNoChange() {
        ExtentShelf x = Shelves.with(4, 4);
        x.make(1, 2, 2);
        Shelves.takeOut(x, 1);
        Check.due("write(0, 0, 1): its column is present", () -> x.write(0, 0, 1), 1);
        Check.unsupported("write(0, 1, 1): its column is not", () -> x.write(0, 1, 1));
        Check.due("number()", x::number, 3);
        Check.same("no leg is gone", Shelves.legs(x, 0), "0/-1 8/-1 -1/-1 -1/-1 -1/-1");
        Check.due("read(0, 0)", () -> x.read(0, 0), 1);
        Check.unsupported("read(0, 1)", () -> x.read(0, 1));
    }

    private static void aLegOnAnAbsentDiskIsGoneFirst() {
        for (int absent = 0; absent < 2; absent++) {
            ExtentShelf x = Shelves.with(4, 4);
            x.make(2, 1, 4);
            Shelves.takeOut(x, absent);
            int other = absent;
            for (int w = 0; w < 16; w++) {
                int word = w;
                Check.due("write(0, " + w + ", 9)", () -> x.write(0, word, 9), 1);
                Check.due("number()", x::number, 3 + 2 * (1 + word / 4));
                Check.due("the leg on the absent disk", () -> x.where(0, word / 4, other), -1);
                if (word / 4 < 3) {
                    int next = 8 * absent + word / 4 + 1;
                    Check.due("that of the next element", () -> x.where(0, word / 4 + 1, other), next);
                }
            }
        }
    }

    private static void legsAreMovedByVolumesElementsAndLegs() {
        ExtentShelf x = Shelves.with(3, 4, 2);
        x.make(2, 1, 4);
        x.add(3, 8);
        Check.same("disk 0 has 0, 1 and 2", Shelves.legs(x, 0), "8/0 9/1 10/16 2/11 -1/-1");
        x.empty(0);
        steps(x, 4);
        Check.same("leg 1 of element 0", Shelves.legs(x, 0), "8/24 9/1 10/16 2/11 -1/-1");
        steps(x, 4);
        Check.same("leg 1 of element 1", Shelves.legs(x, 0), "8/24 9/25 10/16 2/11 -1/-1");
        steps(x, 4);
        Check.same("leg 0 of element 3", Shelves.legs(x, 0), "8/24 9/25 10/16 26/11 -1/-1");
        Check.due("moving()", x::moving, -1);

        ExtentShelf y = Shelves.with(8, 4);
        y.make(0, 1, 1);
        y.make(0, 1, 1);
        y.delete(0);
        y.grow(1, 1);
        y.make(0, 1, 1);
        Check.same("the last place first", legsOf2(y), "2 1 0");
        y.empty(0);
        steps(y, 4);
        Check.same("volume 0", legsOf2(y), "8 1 0");
        steps(y, 4);
        Check.same("element 0 of volume 1", legsOf2(y), "8 9 0");
        steps(y, 4);
        Check.same("element 1 of volume 1", legsOf2(y), "8 9 10");
    }

    private static String legsOf2(ExtentShelf x) {
        return x.where(0, 0, 0) + " " + x.where(1, 0, 0) + " " + x.where(1, 1, 0);
    }

    private static void aCopyBeginsAtWord0() {
        ExtentShelf x = Shelves.with(4, 4);
        x.make(0, 1, 2);
        for (int w = 0; w < 8; w++) {
            x.write(0, w, 10 + w);
        }
        String[] due = {"10 0 0 0 ", "10 11 0 0 ", "10 11 12 0 ", "10 11 12 13 "};
        x.empty(0);
        for (String words : due) {
            Check.due("where(0, 0, 0) before a step", () -> x.where(0, 0, 0), 0);
            x.step();
            Check.same("disk 1", Shelves.words(x, 1, 2), "14 15 16 17 " + words + "0 ".repeat(24));
        }
        Check.due("where(0, 0, 0) after the fourth", () -> x.where(0, 0, 0), 9);
    }

    private static void aCopyEndsWithItsVolume() {
        ExtentShelf x = Shelves.with(4, 3);
        x.make(0, 1, 1);
        x.write(0, 0, 5);
        x.empty(0);
        steps(x, 2);
        x.delete(0);
        Check.due("free(1)", () -> x.free(1), 3);
        Check.due("moving()", x::moving, 0);
        x.make(0, 1, 1);
        Check.due("the same volume in the same extent", () -> x.where(0, 0, 0), 0);
        x.write(0, 0, 6);
        Check.due("it is not written to what was copied to", () -> x.look(1, 2, 0), 5);
        Check.due("step() copies its word 0", x::step, 1);
        Check.due("that word", () -> x.look(1, 2, 0), 6);
        steps(x, 2);
        Check.due("the fourth step()", x::step, 0);
    }

    private static void aCopyEndsWithItsElement() {
        ExtentShelf x = Shelves.with(4, 4);
        x.make(0, 1, 3);
        Check.same("linear", Shelves.legs(x, 0), "0/-1 8/-1 1/-1 -1/-1 -1/-1");
        x.empty(0);
        steps(x, 4 + 3);
        Check.due("free(1)", () -> x.free(1), 1);
        x.shrink(0, 2);
        Check.due("free(1) without the element", () -> x.free(1), 2);
        x.grow(0, 1);
        Check.due("it is on the moved disk again", () -> x.where(0, 2, 0), 0);
        steps(x, 3);
        Check.due("three words are not enough", () -> x.where(0, 2, 0), 0);
        Check.due("step()", x::step, 0);
        Check.due("where(0, 2, 0)", () -> x.where(0, 2, 0), 10);
    }

    private static void aCopyGoesOnWithoutOtherElements() {
        ExtentShelf x = Shelves.with(4, 4);
        x.make(0, 1, 3);
        x.empty(0);
        steps(x, 3);
        x.shrink(0, 1);
        Check.due("its fourth step()", x::step, 0);
        Check.due("where(0, 0, 0)", () -> x.where(0, 0, 0), 9);
    }

    private static void aCopyGoesOnThroughOtherChanges() {
        ExtentShelf x = Shelves.with(8, 8);
        x.make(0, 1, 1);
        x.write(0, 3, 33);
        x.empty(0);
        x.step();
        x.make(0, 1, 1);
        x.add(2, 2);
        x.step();
        x.grow(0, 1);
        x.remove(2);
        x.delete(1);
        x.step();
        Check.due("where(0, 0, 0)", () -> x.where(0, 0, 0), 0);
        Check.due("its fourth step()", x::step, 0);
        Check.due("the room that was found first", () -> x.where(0, 0, 0), 8);
        Check.due("read(0, 3)", () -> x.read(0, 3), 33);
    }
}

/** The boundary cases of the promises, one after the other: what is least and most, empty and full, first and last. */
public final class CallsEdgesTest {
    private static final int LEAST = Integer.MIN_VALUE;
    private static final int GREATEST = Integer.MAX_VALUE;

    public static void main(String[] args) {
        promise1FourDisksWithoutAnything();
        promise2TheFewestAndTheMostExtents();
        promise2AllExtentsBecome0();
        promise2ADiskThatWasRemoved();
        promise2ADiskThatWasDropped();
        promise3UpToTheLastDisk();
        promise3ADiskThatBecameFree();
        promise3TheOnlyDiskOfAVolumeWithoutLegs();
        promise3AMoveOfItEnds();
        promise4NoLegsAndAll();
        promise4ThreeOfFourDisks();
        promise4AVolumeWithoutAnyLeg();
        promise5TheLeastNumberNotUsed();
        promise5FourVolumesWithoutLegs();
        promise5AllWordsAre0();
        promise6UpToFiveElements();
        promise6WhatIsNewIs0();
        promise6AVolumeThatLacksALeg();
        promise7DownToEachNumber();
        promise7AnElementThatIsGone();
        promise8TheLastVolume();
        promise9NothingToMend();
        promise9FiveElements();
        promise9TheNextVolumeIsLeftAlone();
        promise9RoomForJustAllOfThem();
        promise9Leg0AndLeg1();
        promise9OnADiskThatIsBack();
        promise9ElementsWithoutAnyLeg();
        promise10TheFirstAndTheLastWord();
        promise10TheLeastAndTheGreatestValue();
        promise11ReadsAreOfTheWordAlone();
        promise12FromNoLegsToEight();
        promise13TheAnswersOfAWholeMove();
        promise13NoLegWasThere();
        promise13TheLegsWentInTheMove();
        promise13NoRoomAtFirst();
        promise13NoRoomLater();
        promise13RoomThatCameLater();
        promise14FromItsBeginningToItsEnd();
        promise15TheFewestAndTheMostWords();
        promise16NoSuchElementOrLeg();
        promise17FromAllToNone();
        promise18TheLeastCuts();
        promise19OffAndOff();
        promise20WhetherItIsNew();
        promise21TheNumberOfTheTable();
        promise22NumberWithAndWithoutPower();
        promise23TheFirstAndTheLastWords();
        Check.end();
    }

    private static void steps(ExtentShelf x, int n) {
        for (int i = 0; i < n; i++) {
            x.step();
        }
    }

    private static void fill(ExtentShelf x, int v, int first) {
        for (int w = 0; w < x.volume(v, 3); w++) {
            x.write(v, w, first + w);
        }
    }

    private static void promise1FourDisksWithoutAnything() {
        ExtentShelf x = new ExtentShelf();
        ExtentShelf y = new ExtentShelf();
        x.add(0, 4);
        x.make(0, 1, 1);
        x.write(0, 0, 5);
        x.cut(0);
        x.empty(0);
        Check.due("another object has its own number", y::number, 0);
        Check.due("and its own words", () -> y.look(0, 2, 0), 0);
        Check.due("and its own moves", y::moving, -1);
        for (int d = 0; d < 4; d++) {
            int disk = d;
            Check.done("add(" + d + ", 8): it is present, the power on, no cut set", () -> y.add(disk, 8));
        }
    }

    private static void promise2TheFewestAndTheMostExtents() {
        for (int d = 0; d < 4; d++) {
            for (int extents = 0; extents <= 10; extents++) {
                ExtentShelf x = new ExtentShelf();
                int disk = d;
                int n = extents;
                String call = "add(" + d + ", " + n + ")";
                if (n < 2 || n > 8) {
                    Check.badArgument(call, () -> x.add(disk, n));
                    Check.due("number() after " + call, x::number, 0);
                } else {
                    Check.done(call, () -> x.add(disk, n));
                    Check.due("free(" + d + ")", () -> x.free(disk), n);
                    Check.due("number() after " + call, x::number, 1);
                    Check.due("its word in the table", () -> x.look(disk, 0, 1 + disk), n);
                }
            }
        }
    }

    private static void promise2AllExtentsBecome0() {
        ExtentShelf x = Shelves.with(2, 8);
        x.make(0, 1, 5);
        x.make(0, 1, 5);
        fill(x, 0, 1);
        fill(x, 1, 1);
        x.delete(0);
        x.delete(1);
        Check.due("the last extent of disk 1", () -> x.look(1, 2, 31), x.look(1, 2, 28) + 3);
        String other = Shelves.words(x, 0, 2);
        x.remove(1);
        x.add(1, 2);
        Check.same("disk 1, listed with two", Shelves.words(x, 1, 2), "0 ".repeat(32));
        Check.same("disk 0", Shelves.words(x, 0, 2), other);
    }

    private static void promise2ADiskThatWasRemoved() {
        ExtentShelf x = Shelves.with(4, 4);
        x.remove(0);
        Check.unsupported("remove(0): it is not listed", () -> x.remove(0));
        Check.done("add(0, 6)", () -> x.add(0, 6));
        Check.due("free(0)", () -> x.free(0), 6);
        Check.due("number()", x::number, 4);
        Check.unsupported("add(0, 6): it is listed", () -> x.add(0, 6));
        Check.due("start()", () -> Shelves.restart(x), 4);
        Check.due("free(0) after it", () -> x.free(0), 6);
    }

    private static void promise2ADiskThatWasDropped() {
        ExtentShelf x = Shelves.with(4, 4);
        x.make(2, 1, 1);
        x.write(0, 0, 5);
        Shelves.takeOut(x, 0);
        Check.unsupported("add(0, 4): listed and absent", () -> x.add(0, 4));
        x.drop(0);
        Check.unsupported("add(0, 4): absent", () -> x.add(0, 4));
        Shelves.putIn(x, 0);
        Check.due("its word is there still", () -> x.look(0, 2, 0), 5);
        Check.done("add(0, 4)", () -> x.add(0, 4));
        Check.due("its word is not", () -> x.look(0, 2, 0), 0);
        Check.due("its leg is gone", () -> x.where(0, 0, 0), -1);
        Check.due("free(0)", () -> x.free(0), 4);
        Check.due("start() with disk 0 alone", () -> Shelves.takeOut(x, 1), 6);
    }

    private static void promise3UpToTheLastDisk() {
        for (int last = 0; last < 4; last++) {
            ExtentShelf x = Shelves.with(2, 2, 2, 2);
            for (int d = 0; d < 4; d++) {
                int disk = d;
                if (d != last) {
                    Check.done("remove(" + d + ")", () -> x.remove(disk));
                    Check.due("free(" + d + ")", () -> x.free(disk), -1);
                }
            }
            int only = last;
            Check.unsupported("remove(" + last + "): the only one", () -> x.remove(only));
            Check.due("number()", x::number, 7);
            Check.due("free(" + last + ")", () -> x.free(only), 2);
        }
    }

    private static void promise3ADiskThatBecameFree() {
        ExtentShelf x = Shelves.with(4, 3);
        x.make(0, 1, 1);
        Check.unsupported("remove(0): a leg is on it", () -> x.remove(0));
        x.empty(0);
        steps(x, 3);
        Check.unsupported("remove(0) before the fourth word", () -> x.remove(0));
        Check.unsupported("remove(1): it is copied to", () -> x.remove(1));
        x.step();
        Check.unsupported("remove(1): the leg is on it now", () -> x.remove(1));
        Check.done("remove(0)", () -> x.remove(0));
        ExtentShelf y = Shelves.with(4, 3);
        y.make(0, 1, 1);
        y.empty(0);
        y.step();
        y.delete(0);
        Check.done("remove(1): nothing is copied to it any more", () -> y.remove(1));
        Check.due("the move of disk 0 goes on", y::moving, 0);
        Check.unsupported("remove(0): the only one", () -> y.remove(0));
        Check.due("and goes on", y::moving, 0);
    }

    private static void promise3TheOnlyDiskOfAVolumeWithoutLegs() {
        ExtentShelf x = Shelves.with(4, 2);
        x.make(0, 1, 1);
        Shelves.takeOut(x, 0);
        x.drop(0);
        Check.unsupported("remove(1): the only one, though no leg is on it", () -> x.remove(1));
        Check.done("add(2, 2)", () -> x.add(2, 2));
        Check.done("remove(1): there is another one", () -> x.remove(1));
    }

    private static void promise3AMoveOfItEnds() {
        ExtentShelf x = Shelves.with(4, 3);
        x.empty(0);
        Check.done("remove(0)", () -> x.remove(0));
        Check.due("moving()", x::moving, -1);
        Check.done("add(0, 4)", () -> x.add(0, 4));
        Check.due("moving() when it is listed again", x::moving, -1);
        Check.due("empty(1): no move is under way", () -> x.empty(1), 0);
    }

    private static void promise4NoLegsAndAll() {
        ExtentShelf none = Shelves.with(4, 4);
        Shelves.takeOut(none, 1);
        Check.due("drop(1) without legs", () -> none.drop(1), 0);
        Check.due("number()", none::number, 4);

        ExtentShelf all = Shelves.with(0, 0, 2, 8);
        all.make(0, 1, 5);
        all.make(0, 1, 1);
        all.make(0, 1, 2);
        all.make(0, 1, 2);
        Check.due("disk 3 is full", () -> all.free(3), 0);
        Shelves.takeOut(all, 3);
        Check.due("drop(3) with all eight", () -> all.drop(3), 8);
        Check.due("the two on disk 2 are left", () -> all.free(2), 0);
    }

    private static void promise4ThreeOfFourDisks() {
        ExtentShelf x = Shelves.with(4, 4, 4, 4);
        x.make(2, 1, 4);
        x.off();
        x.plug(0, false);
        x.plug(1, false);
        x.plug(3, false);
        Check.due("start() with disk 2 alone", x::start, 5);
        int gone = x.drop(1) + x.drop(0);
        Check.unsupported("drop(0): it is listed no more", () -> x.drop(0));
        Check.unsupported("drop(2): it is present", () -> x.drop(2));
        gone += x.drop(3);
        int left = 8 - gone;
        Check.due("number()", x::number, 5 + 2 + 2 + 2);
        Check.due("the legs on disk 2", () -> 4 - x.free(2), left);
        Check.unsupported("remove(2): the only one", () -> x.remove(2));
    }

    private static void promise4AVolumeWithoutAnyLeg() {
        ExtentShelf x = Shelves.with(8, 2);
        x.make(0, 1, 2);
        Shelves.takeOut(x, 0);
        Check.due("drop(0)", () -> x.drop(0), 2);
        Check.due("it has its elements", () -> x.volume(0, 2), 2);
        Check.due("and its words", () -> x.volume(0, 3), 8);
        Check.unsupported("read(0, 0)", () -> x.read(0, 0));
        Check.unsupported("write(0, 7, 1)", () -> x.write(0, 7, 1));
        Check.outOfBounds("read(0, 8)", () -> x.read(0, 8));
        Check.due("grow(0, 1)", () -> x.grow(0, 1), 3);
        Check.due("write(0, 8, 1)", () -> x.write(0, 8, 1), 1);
        Check.due("shrink(0, 1)", () -> x.shrink(0, 1), 2);
        Check.done("delete(0)", () -> x.delete(0));
    }

    private static void promise5TheLeastNumberNotUsed() {
        for (int went = 0; went < 4; went++) {
            ExtentShelf x = Shelves.with(8);
            for (int v = 0; v < 4; v++) {
                x.make(0, 1, 1);
            }
            x.delete(went);
            int due = went;
            Check.due("make(0, 1, 2)", () -> x.make(0, 1, 2), due);
            Check.due("volume(" + went + ", 2)", () -> x.volume(due, 2), 2);
            Check.unsupported("make(0, 1, 1): there are four again", () -> x.make(0, 1, 1));
        }
    }

    private static void promise5FourVolumesWithoutLegs() {
        ExtentShelf x = Shelves.with(8, 2);
        for (int v = 0; v < 4; v++) {
            x.make(0, 1, 1);
        }
        Shelves.takeOut(x, 0);
        Check.due("drop(0)", () -> x.drop(0), 4);
        Check.unsupported("make(0, 1, 1): there are four still", () -> x.make(0, 1, 1));
        x.delete(3);
        Check.due("make(0, 1, 1)", () -> x.make(0, 1, 1), 3);
    }

    private static void promise5AllWordsAre0() {
        ExtentShelf x = Shelves.with(5, 5);
        x.make(2, 1, 5);
        fill(x, 0, 1);
        x.delete(0);
        x.make(0, 1, 1);
        Check.same("its words alone are 0", Shelves.words(x, 0, 2).substring(0, 16), "0 0 0 0 5 6 7 8 ");
        Check.due("disk 1 stays", () -> x.look(1, 2, 0), 1);
        x.make(2, 1, 4);
        for (int w = 0; w < 16; w++) {
            int word = w;
            Check.due("read(1, " + w + ")", () -> x.read(1, word), 0);
        }
        Check.due("the extent that is free still", () -> x.look(1, 2, 16), 17);
    }

    private static void promise6UpToFiveElements() {
        for (int kind = 0; kind <= 2; kind += 2) {
            for (int before = 1; before <= 5; before++) {
                for (int n = 0; n <= 6; n++) {
                    ExtentShelf x = Shelves.with(8, 8);
                    x.make(kind, 1, before);
                    int more = n;
                    int after = before + n;
                    String call = "grow(0, " + n + ") of " + before;
                    if (n < 1 || after > 5) {
                        Check.badArgument(call, () -> x.grow(0, more));
                    } else {
                        Check.due(call, () -> x.grow(0, more), after);
                        Check.due("elements after " + call, () -> x.volume(0, 2), after);
                    }
                }
            }
        }
        ExtentShelf two = Shelves.with(8, 8);
        two.make(1, 2, 2);
        Check.badArgument("grow(0, 1) of two columns", () -> two.grow(0, 1));
        Check.due("grow(0, 2) of two columns", () -> two.grow(0, 2), 4);
        Check.badArgument("grow(0, 1) of four", () -> two.grow(0, 1));
        Check.badArgument("grow(0, 2) of four", () -> two.grow(0, 2));
    }

    private static void promise6WhatIsNewIs0() {
        ExtentShelf x = Shelves.with(3, 3);
        x.make(2, 1, 3);
        fill(x, 0, 1);
        x.shrink(0, 1);
        Check.due("what an element had stays in its extent", () -> x.look(0, 2, 4), 5);
        x.grow(0, 2);
        Check.same("disk 0", Shelves.words(x, 0, 2), "1 2 3 4 " + "0 ".repeat(28));
        Check.same("disk 1", Shelves.words(x, 1, 2), "1 2 3 4 " + "0 ".repeat(28));
    }

    private static void promise6AVolumeThatLacksALeg() {
        ExtentShelf x = Shelves.with(4, 4, 4);
        x.make(2, 1, 1);
        Shelves.takeOut(x, 1);
        x.drop(1);
        Check.due("grow(0, 1)", () -> x.grow(0, 1), 2);
        Check.same("only the new element has two legs", Shelves.legs(x, 0), "0/-1 16/1 -1/-1 -1/-1 -1/-1");
    }

    private static void promise7DownToEachNumber() {
        for (int before = 1; before <= 5; before++) {
            for (int n = 0; n <= 6; n++) {
                ExtentShelf x = Shelves.with(8, 8);
                x.make(2, 1, before);
                int left = n;
                int went = before - n;
                String call = "shrink(0, " + n + ") of " + before;
                if (n < 1 || n >= before) {
                    Check.badArgument(call, () -> x.shrink(0, left));
                } else {
                    Check.due(call, () -> x.shrink(0, left), went);
                    Check.due("elements after " + call, () -> x.volume(0, 2), left);
                    Check.due("free(0) after " + call, () -> x.free(0), 8 - left);
                    Check.due("free(1) after " + call, () -> x.free(1), 8 - left);
                    Check.due("the first that went", () -> x.where(0, left, 0), -1);
                    Check.due("the last that stays", () -> x.where(0, left - 1, 1), 8 + left - 1);
                    Check.outOfBounds("read behind the last", () -> x.read(0, 4 * left));
                }
            }
        }
        ExtentShelf two = Shelves.with(8, 8);
        two.make(1, 2, 4);
        Check.due("shrink(0, 2) of two columns", () -> two.shrink(0, 2), 2);
        Check.badArgument("shrink(0, 2) of two", () -> two.shrink(0, 2));
    }

    private static void promise7AnElementThatIsGone() {
        ExtentShelf x = Shelves.with(3, 2);
        x.make(0, 1, 3);
        Check.same("linear", Shelves.legs(x, 0), "0/-1 1/-1 8/-1 -1/-1 -1/-1");
        Shelves.takeOut(x, 1);
        x.drop(1);
        Check.due("shrink(0, 2)", () -> x.shrink(0, 2), 1);
        Check.due("what is left can be read", () -> x.read(0, 7), 0);
    }

    private static void promise8TheLastVolume() {
        ExtentShelf x = Shelves.with(5, 5);
        x.make(2, 1, 5);
        Check.due("free(0)", () -> x.free(0), 0);
        Check.done("delete(0)", () -> x.delete(0));
        Check.due("free(0) after it", () -> x.free(0), 5);
        Check.due("free(1) after it", () -> x.free(1), 5);
        Check.noElement("delete(0) again", () -> x.delete(0));
        Check.noElement("read(0, 0)", () -> x.read(0, 0));
        Check.due("number()", x::number, 4);
        Check.due("its words stay 0 in the table", () -> x.look(0, 1, 5) + x.look(0, 1, 9), 0);
        Check.done("remove(1)", () -> x.remove(1));
    }

    private static void promise9NothingToMend() {
        ExtentShelf x = Shelves.with(5, 5);
        x.make(2, 1, 5);
        String before = Shelves.all(x);
        x.cut(0);
        Check.due("mend(0)", () -> x.mend(0), 0);
        Check.same("nothing is done", Shelves.all(x), before);
    }

    private static void promise9FiveElements() {
        ExtentShelf x = Shelves.with(5, 5);
        x.make(2, 1, 5);
        fill(x, 0, 1);
        Shelves.takeOut(x, 0);
        x.drop(0);
        x.add(2, 8);
        Check.due("mend(0)", () -> x.mend(0), 5);
        Check.same("five legs 0", Shelves.legs(x, 0), "16/8 17/9 18/10 19/11 20/12");
        Check.same("disk 2 is as disk 1", Shelves.words(x, 2, 2), Shelves.words(x, 1, 2));
        Check.due("number()", x::number, 7);
        Check.due("mend(0) again", () -> x.mend(0), 0);
    }

    private static void promise9TheNextVolumeIsLeftAlone() {
        ExtentShelf x = Shelves.with(5, 8, 8);
        x.make(2, 1, 5);
        x.make(0, 1, 2);
        Check.due("mend(0) beside a linear one", () -> x.mend(0), 0);
        Check.due("number()", x::number, 5);
        Check.same("twins", Shelves.legs(x, 0), "8/16 9/17 10/18 0/11 19/1");
        Check.same("linear", Shelves.legs(x, 1), "12/-1 20/-1 -1/-1 -1/-1 -1/-1");
        Shelves.takeOut(x, 0);
        Check.due("drop(0)", () -> x.drop(0), 2);
        Check.due("mend(0)", () -> x.mend(0), 2);
        Check.same("twins after it", Shelves.legs(x, 0), "8/16 9/17 10/18 21/11 19/13");
        Check.same("linear after it", Shelves.legs(x, 1), "12/-1 20/-1 -1/-1 -1/-1 -1/-1");
    }

    private static void promise9RoomForJustAllOfThem() {
        for (int room = 2; room <= 4; room++) {
            ExtentShelf x = Shelves.with(3, 3);
            x.make(2, 1, 3);
            Shelves.takeOut(x, 1);
            x.drop(1);
            x.add(3, room);
            if (room < 3) {
                String before = Shelves.all(x);
                Check.unsupported("mend(0) with room for two", () -> x.mend(0));
                Check.same("nothing is changed", Shelves.all(x), before);
            } else {
                Check.due("mend(0)", () -> x.mend(0), 3);
                Check.same("three legs 1", Shelves.legs(x, 0), "0/24 1/25 2/26 -1/-1 -1/-1");
            }
        }
    }

    private static void promise9Leg0AndLeg1() {
        ExtentShelf x = Shelves.with(4, 4, 4);
        x.make(2, 1, 3);
        Check.same("twins", Shelves.legs(x, 0), "0/8 16/1 9/17 -1/-1 -1/-1");
        fill(x, 0, 1);
        Shelves.takeOut(x, 1);
        Check.due("drop(1)", () -> x.drop(1), 2);
        Check.same("a leg 1 and a leg 0 are gone", Shelves.legs(x, 0), "0/-1 16/1 -1/17 -1/-1 -1/-1");
        Check.due("mend(0)", () -> x.mend(0), 2);
        Check.same("they are on the other disk each", Shelves.legs(x, 0), "0/18 16/1 2/17 -1/-1 -1/-1");
        for (int w = 0; w < 12; w++) {
            int word = w;
            Check.due("read(0, " + w + ")", () -> x.read(0, word), 1 + w);
        }
        Check.due("write(0, 8, 5)", () -> x.write(0, 8, 5), 2);
    }

    private static void promise9OnADiskThatIsBack() {
        ExtentShelf x = Shelves.with(2, 2);
        x.make(2, 1, 2);
        fill(x, 0, 1);
        Shelves.takeOut(x, 1);
        x.write(0, 0, 9);
        Shelves.putIn(x, 1);
        Check.same("one leg is gone, its extent free", Shelves.legs(x, 0) + " " + x.free(1),
                "0/-1 1/9 -1/-1 -1/-1 -1/-1 1");
        Check.due("mend(0)", () -> x.mend(0), 1);
        Check.due("it is where it was", () -> x.where(0, 0, 1), 8);
        Check.due("with the new word", () -> x.look(1, 2, 0), 9);
        Check.due("number()", x::number, 6);
    }

    private static void promise9ElementsWithoutAnyLeg() {
        ExtentShelf x = Shelves.with(2, 2, 2);
        x.make(2, 1, 1);
        Check.same("twins", Shelves.legs(x, 0), "0/8 -1/-1 -1/-1 -1/-1 -1/-1");
        Shelves.takeOut(x, 0);
        x.drop(0);
        Shelves.takeOut(x, 1);
        x.drop(1);
        Check.due("mend(0): both legs are gone", () -> x.mend(0), 0);
        Check.due("that is no change", x::number, 8);
        Check.due("it needs no room", () -> x.make(0, 1, 2), 1);
        Check.due("mend(0) on a full disk", () -> x.mend(0), 0);
    }

    private static void promise10TheFirstAndTheLastWord() {
        for (int elements = 1; elements <= 5; elements++) {
            ExtentShelf x = Shelves.with(5, 5);
            x.make(2, 1, elements);
            int last = 4 * elements - 1;
            Check.due("write(0, 0, 1)", () -> x.write(0, 0, 1), 2);
            Check.due("write(0, " + last + ", 2)", () -> x.write(0, last, 2), 2);
            Check.outOfBounds("write(0, -1, 3)", () -> x.write(0, -1, 3));
            Check.outOfBounds("write(0, " + (last + 1) + ", 3)", () -> x.write(0, last + 1, 3));
            Check.due("read(0, 0)", () -> x.read(0, 0), 1);
            Check.due("read(0, " + last + ")", () -> x.read(0, last), 2);
            Check.outOfBounds("read(0, -1)", () -> x.read(0, -1));
            Check.outOfBounds("read(0, " + (last + 1) + ")", () -> x.read(0, last + 1));
        }
    }

    private static void promise10TheLeastAndTheGreatestValue() {
        ExtentShelf x = Shelves.with(2, 2);
        x.make(2, 1, 1);
        for (int value : new int[] {LEAST, -1, 0, 1, GREATEST}) {
            Check.due("write(0, 3, " + value + ")", () -> x.write(0, 3, value), 2);
            Check.due("read(0, 3)", () -> x.read(0, 3), value);
            Check.due("leg 1", () -> x.look(1, 2, 3), value);
        }
    }

    private static void promise11ReadsAreOfTheWordAlone() {
        ExtentShelf x = Shelves.with(4, 4, 4);
        x.make(1, 3, 3);
        fill(x, 0, 50);
        String before = Shelves.all(x);
        for (int w = 0; w < 12; w++) {
            int word = w;
            Check.due("read(0, " + w + ")", () -> x.read(0, word), 50 + w);
        }
        Check.same("reading changes nothing", Shelves.all(x), before);
    }

    private static void promise12FromNoLegsToEight() {
        for (int legs = 0; legs <= 8; legs++) {
            ExtentShelf x = Shelves.with(8);
            if (legs > 0) {
                x.make(0, 1, Math.min(5, legs));
            }
            if (legs > 5) {
                x.make(0, 1, legs - 5);
            }
            int due = legs;
            x.cut(0);
            Check.due("empty(0) with " + legs, () -> x.empty(0), due);
            Check.due("moving()", x::moving, 0);
            Check.unsupported("empty(0) again", () -> x.empty(0));
        }
    }

    private static void promise13TheAnswersOfAWholeMove() {
        ExtentShelf x = Shelves.with(8);
        x.make(0, 1, 5);
        x.make(0, 1, 3);
        fill(x, 0, 1);
        fill(x, 1, 31);
        x.add(2, 8);
        x.empty(0);
        int number = x.number();
        for (int i = 1; i <= 32; i++) {
            int left = 8 - i / 4;
            Check.due("step " + i, x::step, left);
            Check.due("number() after step " + i, x::number, number + i / 4);
            Check.due("moving() after step " + i, x::moving, i < 32 ? 0 : -1);
            Check.due("free(0) after step " + i, () -> x.free(0), 8 - left);
        }
        Check.unsupported("step 33", x::step);
        Check.same("all words", Shelves.words(x, 2, 2), Shelves.words(x, 0, 2));
        Check.due("the last one", () -> x.read(1, 11), 42);
    }

    private static void promise13NoLegWasThere() {
        ExtentShelf x = Shelves.with(4, 4);
        x.make(0, 1, 1);
        x.empty(1);
        String words = Shelves.words(x, 0, 2) + Shelves.words(x, 1, 2);
        Check.due("step()", x::step, 0);
        Check.due("moving()", x::moving, -1);
        Check.due("number()", x::number, 3);
        Check.same("nothing is copied", Shelves.words(x, 0, 2) + Shelves.words(x, 1, 2), words);
        Check.unsupported("step() again", x::step);
        for (int extents = 2; extents <= 8; extents++) {
            for (int d = 0; d < 4; d++) {
                ExtentShelf bare = Shelves.with(extents, extents, extents, extents);
                bare.empty(d);
                Check.due("step() without volumes", bare::step, 0);
                ExtentShelf two = Shelves.with(2, extents);
                two.empty(d / 2);
                Check.due("step() on two disks without volumes", two::step, 0);
            }
        }
    }

    private static void promise13TheLegsWentInTheMove() {
        ExtentShelf x = Shelves.with(4, 4);
        x.make(0, 1, 1);
        x.empty(0);
        steps(x, 3);
        x.delete(0);
        Check.due("moving(): the move goes on", x::moving, 0);
        Check.due("step(): no leg is left", x::step, 0);
        Check.due("moving()", x::moving, -1);
        Check.due("number(): nothing has moved", x::number, 4);
    }

    private static void promise13NoRoomAtFirst() {
        ExtentShelf x = Shelves.with(4, 2);
        x.make(0, 1, 5);
        x.make(0, 1, 1);
        Check.due("all is full", () -> x.free(0) + x.free(1), 0);
        x.empty(1);
        String before = Shelves.words(x, 0, 2) + Shelves.words(x, 1, 2);
        Check.due("step()", x::step, -1);
        Check.due("moving()", x::moving, -1);
        Check.unsupported("step() again", x::step);
        Check.same("nothing is copied", Shelves.words(x, 0, 2) + Shelves.words(x, 1, 2), before);
        Check.due("number()", x::number, 4);
    }

    private static void promise13NoRoomLater() {
        ExtentShelf x = Shelves.with(4, 2);
        x.make(0, 1, 4);
        Check.same("linear", Shelves.legs(x, 0), "0/-1 1/-1 2/-1 8/-1 -1/-1");
        x.empty(0);
        int[] due = {3, 3, 3, 2, -1};
        for (int answer : due) {
            Check.due("step()", x::step, answer);
        }
        Check.due("moving()", x::moving, -1);
        Check.same("one has moved", Shelves.legs(x, 0), "9/-1 1/-1 2/-1 8/-1 -1/-1");
    }

    private static void promise13RoomThatCameLater() {
        ExtentShelf x = Shelves.with(3, 2);
        x.make(0, 1, 5);
        x.empty(0);
        x.add(2, 8);
        Check.due("step(): disk 2 has room", x::step, 3);
        ExtentShelf y = Shelves.with(3, 2);
        y.make(0, 1, 5);
        y.empty(0);
        Check.due("step(): no room", y::step, -1);
        y.add(2, 8);
        Check.unsupported("step(): the move has ended", y::step);
        Check.due("empty(0)", () -> y.empty(0), 3);
        Check.due("step() of another move", y::step, 3);
    }

    private static void promise14FromItsBeginningToItsEnd() {
        for (int d = 0; d < 4; d++) {
            ExtentShelf x = Shelves.with(2, 2, 2, 2);
            int disk = d;
            Check.due("moving() before", x::moving, -1);
            x.empty(d);
            Check.due("moving() of " + d, x::moving, disk);
            Check.unsupported("empty() of another one", () -> x.empty((disk + 1) % 4));
            Check.due("moving() of it still", x::moving, disk);
            x.step();
            Check.due("moving() after", x::moving, -1);
        }
    }

    private static void promise15TheFewestAndTheMostWords() {
        int[][] shapes = {{0, 1, 1, 4}, {0, 1, 5, 20}, {1, 2, 2, 8}, {1, 2, 4, 16}, {1, 3, 3, 12}, {2, 1, 1, 4},
            {2, 1, 5, 20}};
        for (int[] shape : shapes) {
            ExtentShelf x = Shelves.with(8, 8, 8);
            x.make(shape[0], shape[1], shape[2]);
            for (int what = 0; what < 4; what++) {
                int which = what;
                Check.due("volume(0, " + what + ")", () -> x.volume(0, which), shape[what]);
            }
            for (int what : new int[] {LEAST, -1, 4, 5, GREATEST}) {
                Check.badArgument("volume(0, " + what + ")", () -> x.volume(0, what));
            }
        }
    }

    private static void promise16NoSuchElementOrLeg() {
        ExtentShelf x = Shelves.with(8, 8);
        x.make(2, 1, 5);
        x.make(0, 1, 2);
        for (int e : new int[] {LEAST, -1, 5, 6, GREATEST}) {
            Check.due("where(0, " + e + ", 0)", () -> x.where(0, e, 0), -1);
            Check.due("where(0, " + e + ", 1)", () -> x.where(0, e, 1), -1);
            Check.due("where(1, " + e + ", 0)", () -> x.where(1, e, 0), -1);
        }
        for (int l : new int[] {LEAST, -1, 2, 3, 10, GREATEST}) {
            Check.due("where(0, 0, " + l + ")", () -> x.where(0, 0, l), -1);
            Check.due("where(0, 4, " + l + ")", () -> x.where(0, 4, l), -1);
        }
        Check.due("where(0, 4, 1): the last one", () -> x.where(0, 4, 1), 12);
        Check.due("where(1, 1, 0)", () -> x.where(1, 1, 0), 13);
        Check.due("where(1, 1, 1): a linear one has none", () -> x.where(1, 1, 1), -1);
        Check.due("where(1, 2, 0): behind its last element", () -> x.where(1, 2, 0), -1);
        Check.due("where(1, -1, 2): not the leg before", () -> x.where(1, -1, 2), -1);
        x.make(1, 2, 2);
        Check.due("where(2, 0, 1): a striped one has none", () -> x.where(2, 0, 1), -1);
    }

    private static void promise17FromAllToNone() {
        ExtentShelf x = Shelves.with(5);
        Check.due("free(1): not listed", () -> x.free(1), -1);
        Check.due("free(0)", () -> x.free(0), 5);
        x.make(0, 1, 1);
        for (int left = 4; left > 0; left--) {
            int due = left;
            Check.due("free(0)", () -> x.free(0), due);
            x.grow(0, 1);
        }
        Check.due("free(0): none", () -> x.free(0), 0);
        x.delete(0);
        Check.due("free(0): all", () -> x.free(0), 5);
    }

    private static void promise18TheLeastCuts() {
        ExtentShelf x = Shelves.with(2, 2);
        x.make(0, 1, 1);
        Check.badArgument("cut(-2)", () -> x.cut(-2));
        Check.done("cut(-1)", () -> x.cut(-1));
        Check.due("write(0, 0, 1)", () -> x.write(0, 0, 1), 1);
        Check.done("cut(0)", () -> x.cut(0));
        Check.badState("write(0, 0, 2)", () -> x.write(0, 0, 2));
        Check.due("it is not written", () -> x.look(0, 2, 0), 1);
        x.start();
        Check.done("cut(1)", () -> x.cut(1));
        Check.due("write(0, 0, 3)", () -> x.write(0, 0, 3), 1);
        Check.badState("write(0, 0, 4)", () -> x.write(0, 0, 4));
        Check.due("it is not written either", () -> x.look(0, 2, 0), 3);
    }

    private static void promise19OffAndOff() {
        ExtentShelf x = new ExtentShelf();
        Check.done("off()", x::off);
        Check.badState("off() again", x::off);
        Check.due("start()", x::start, 0);
        Check.done("off() after start()", x::off);
        x.start();
        x.add(0, 2);
        x.cut(0);
        Check.badState("add(1, 2): cut off", () -> x.add(1, 2));
        Check.badState("off() after a cut", x::off);
    }

    private static void promise20WhetherItIsNew() {
        ExtentShelf x = new ExtentShelf();
        x.off();
        for (int d = 0; d < 4; d++) {
            int disk = d;
            Check.dueBoolean("plug(" + d + ", true)", () -> x.plug(disk, true), false);
            Check.dueBoolean("plug(" + d + ", false)", () -> x.plug(disk, false), true);
            Check.dueBoolean("plug(" + d + ", false) again", () -> x.plug(disk, false), false);
        }
        x.start();
        Check.badState("plug(0, true) with power", () -> x.plug(0, true));
        x.off();
        for (int d = 0; d < 4; d++) {
            int disk = d;
            Check.dueBoolean("plug(" + d + ", true) when it was out", () -> x.plug(disk, true), true);
            Check.dueBoolean("plug(" + d + ", true) again", () -> x.plug(disk, true), false);
        }
    }

    private static void promise21TheNumberOfTheTable() {
        ExtentShelf x = new ExtentShelf();
        Check.badState("start() with power", x::start);
        for (int d = 0; d < 4; d++) {
            int number = d;
            Check.due("start()", () -> Shelves.restart(x), number);
            Check.due("number()", x::number, number);
            x.add(d, 2);
        }
        Check.badState("start() after start()", x::start);
    }

    private static void promise22NumberWithAndWithoutPower() {
        ExtentShelf x = new ExtentShelf();
        Check.due("number()", x::number, 0);
        x.off();
        Check.due("number() without power: not 0", x::number, -1);
        x.start();
        Check.due("number() again", x::number, 0);
        x.cut(50);
        Check.badState("add(0, 2): cut off", () -> x.add(0, 2));
        Check.due("number() after a cut", x::number, -1);
        x.start();
        x.cut(51);
        Check.done("add(0, 2) with 51 words", () -> x.add(0, 2));
        Check.due("number() after it", x::number, 1);
    }

    private static void promise23TheFirstAndTheLastWords() {
        ExtentShelf x = Shelves.with(8, 8, 8, 8);
        for (int d = 0; d < 4; d++) {
            int disk = d;
            for (int s = 0; s < 3; s++) {
                int slot = s;
                int end = s == 2 ? 32 : 51;
                Check.outOfBounds("look(" + d + ", " + s + ", -1)", () -> x.look(disk, slot, -1));
                Check.outOfBounds("look(" + d + ", " + s + ", " + end + ")", () -> x.look(disk, slot, end));
                Check.same("look(" + d + ", " + s + ", " + (end - 1) + ")",
                        Check.outcome(() -> "" + x.look(disk, slot, end - 1)), "" + numberIn(disk, slot));
            }
            Check.outOfBounds("look(" + d + ", 3, 0)", () -> x.look(disk, 3, 0));
            Check.outOfBounds("look(" + d + ", -1, 0)", () -> x.look(disk, -1, 0));
        }
        Check.outOfBounds("look(4, 0, 0)", () -> x.look(4, 0, 0));
        Check.outOfBounds("look(-1, 0, 0)", () -> x.look(-1, 0, 0));
    }

    /** The number in a slot of a disk when four have been added one after the other. */
    private static int numberIn(int d, int s) {
        int[][] numbers = {{3, 4}, {4, 3}, {3, 4}, {4, 0}};
        return s == 2 ? 0 : numbers[d][s];
    }
}

/** The boundary cases that the document's "Terms" name, a method for each sentence. */
public final class TermsEdgesTest {
    private static final int GREATEST = Integer.MAX_VALUE;

    public static void main(String[] args) {
        disksAre0To3();
        aDiskHasAtMost8Places();
        allWordsAre0AtFirst();
        aCutCountsFromThenOn();
        aCutGoesOnFromCallToCall();
        noCutIsSetWhenThePowerWentOff();
        volumesAre0To3();
        kindsColumnsAndElementsOfAVolume();
        aTableIsWrittenIn51Words();
        theFirstAndTheLastWordsOfATable();
        aLegThatIsGoneIs0InATable();
        theSumOfAGreatTable();
        nothingIsListedAtFirst();
        aSlotOfZerosIsNotWhole();
        aSlotThatLacksItsLastWordIsNotWhole();
        theFirstSlotIsWrittenIfNeitherIsWhole();
        theSlotThatIsNotWholeIsWritten();
        theSlotWithTheLesserNumberIsWritten();
        aNumberIs1More();
        aNumberIs2MoreIfAListedDiskIsAbsent();
        anAbsentDiskMayHaveTheNumberBetween();
        aChangeGoesToListedAndPresentDisksOnly();
        anAbsentDiskThatIsNotListedRefusesNothing();
        whatIsDoneWhileAListedDiskIsAbsent();
        wordsOfALinearVolume();
        wordsOfTwoColumns();
        wordsOfThreeColumns();
        Check.end();
    }

    private static void disksAre0To3() {
        ExtentShelf x = new ExtentShelf();
        for (int d = 0; d < 4; d++) {
            int disk = d;
            Check.done("add(" + d + ", 2)", () -> x.add(disk, 2));
            Check.due("free(" + d + ")", () -> x.free(disk), 2);
            Check.due("look(" + d + ", 2, 31)", () -> x.look(disk, 2, 31), 0);
            Check.due("empty(" + d + ")", () -> x.empty(disk), 0);
            Check.due("step()", x::step, 0);
        }
        for (int d = 3; d > 0; d--) {
            int disk = d;
            Check.due("number() without disk " + d, () -> Shelves.takeOut(x, disk), 4 + 2 * (3 - d));
            Check.due("drop(" + d + ")", () -> x.drop(disk), 0);
        }
        Check.due("disk 0 is left", () -> x.free(0), 2);
    }

    private static void aDiskHasAtMost8Places() {
        ExtentShelf x = Shelves.with(8);
        x.make(0, 1, 5);
        x.make(0, 1, 3);
        Check.same("places 0 to 4", Shelves.legs(x, 0), "0/-1 1/-1 2/-1 3/-1 4/-1");
        Check.same("places 5 to 7", Shelves.legs(x, 1), "5/-1 6/-1 7/-1 -1/-1 -1/-1");
        Check.due("free(0)", () -> x.free(0), 0);
        Check.unsupported("a ninth", () -> x.make(0, 1, 1));
        x.write(0, 0, 1);
        x.write(1, 11, 2);
        Check.same("the first and the last word", Shelves.words(x, 0, 2), "1 " + "0 ".repeat(30) + "2 ");

        ExtentShelf least = Shelves.with(0, 0, 0, 2);
        least.make(0, 1, 2);
        Check.same("two places of disk 3", Shelves.legs(least, 0), "24/-1 25/-1 -1/-1 -1/-1 -1/-1");
        Check.unsupported("a third", () -> least.grow(0, 1));
    }

    private static void allWordsAre0AtFirst() {
        ExtentShelf x = new ExtentShelf();
        for (int d = 0; d < 4; d++) {
            for (int s = 0; s < 3; s++) {
                Check.same("words of disk " + d + ", " + s, Shelves.words(x, d, s), "0 ".repeat(s == 2 ? 32 : 51));
            }
        }
    }

    private static ExtentShelf linear() {
        ExtentShelf x = Shelves.with(4, 4);
        x.make(0, 1, 2);
        return x;
    }

    /** How many words are written before the power goes off, of at most 100. */
    private static int wordsLeft(ExtentShelf x) {
        for (int n = 0; n < 100; n++) {
            int value = 1 + n;
            if (!Check.outcome(() -> "" + x.write(0, 0, value)).equals("1")) {
                Check.due("the word after the last", () -> x.look(0, 2, 0), n);
                return n;
            }
        }
        return 100;
    }

    private static void aCutCountsFromThenOn() {
        for (int n = 0; n < 8; n++) {
            ExtentShelf x = linear();
            x.write(0, 4, 1);
            x.write(0, 5, 1);
            x.cut(n);
            Check.due("words with a cut after " + n, () -> wordsLeft(x), n);

            ExtentShelf again = linear();
            again.cut(n + 1);
            again.write(0, 4, 1);
            again.cut(n);
            Check.due("words with another cut after " + n, () -> wordsLeft(again), n);

            ExtentShelf none = linear();
            none.cut(n);
            none.cut(-1);
            Check.due("words with no cut any more", () -> wordsLeft(none), 100);
        }
        ExtentShelf most = linear();
        most.cut(GREATEST);
        Check.due("words with the greatest cut", () -> wordsLeft(most), 100);
    }

    private static void aCutGoesOnFromCallToCall() {
        ExtentShelf x = linear();
        x.cut(2 + 4 + 2 * 51 + 3);
        Check.due("two words", () -> x.write(0, 0, 1) + x.write(0, 1, 1), 2);
        Check.due("four words and two tables", () -> x.make(0, 1, 1), 1);
        Check.due("read(0, 0) writes none", () -> x.read(0, 0), 1);
        Check.unsupported("a refused call writes none", () -> x.make(1, 3, 3));
        Check.due("three words are left", () -> wordsLeft(x), 3);
    }

    private static void noCutIsSetWhenThePowerWentOff() {
        ExtentShelf x = linear();
        x.cut(3);
        Check.due("words before the cut", () -> wordsLeft(x), 3);
        x.start();
        Check.due("words after it", () -> wordsLeft(x), 100);
        x.cut(3);
        x.off();
        x.start();
        Check.due("words after off()", () -> wordsLeft(x), 100);
    }

    private static void volumesAre0To3() {
        ExtentShelf x = Shelves.with(8);
        for (int v = 0; v < 4; v++) {
            Check.due("make", () -> x.make(0, 1, 1), v);
        }
        Check.unsupported("a fifth", () -> x.make(0, 1, 1));
        for (int v = 0; v < 4; v++) {
            int volume = v;
            x.delete(v);
            Check.due("the one that went", () -> x.make(0, 1, 1), volume);
        }
        x.delete(3);
        x.delete(1);
        Check.due("the least of two that went", () -> x.make(0, 1, 1), 1);
        Check.due("the other one", () -> x.make(0, 1, 1), 3);
    }

    private static void kindsColumnsAndElementsOfAVolume() {
        for (int kind = -1; kind <= 3; kind++) {
            for (int columns = -1; columns <= 6; columns++) {
                for (int elements = -1; elements <= 7; elements++) {
                    tryShape(kind, columns, elements);
                }
            }
        }
    }

    private static void tryShape(int kind, int columns, int elements) {
        boolean columnsAsItHas = kind == 1 ? columns == 2 || columns == 3 : columns == 1;
        boolean may = kind >= 0 && kind <= 2 && columnsAsItHas && elements >= 1 && elements <= 5
                && elements % columns == 0;
        ExtentShelf x = Shelves.with(8, 8, 8, 8);
        String call = "make(" + kind + ", " + columns + ", " + elements + ")";
        if (!may) {
            Check.badArgument(call, () -> x.make(kind, columns, elements));
            return;
        }
        Check.due(call, () -> x.make(kind, columns, elements), 0);
        Check.due("kind of " + call, () -> x.volume(0, 0), kind);
        Check.due("columns of " + call, () -> x.volume(0, 1), columns);
        Check.due("elements of " + call, () -> x.volume(0, 2), elements);
        Check.due("words of " + call, () -> x.volume(0, 3), 4 * elements);
        for (int e = 0; e < 5; e++) {
            for (int l = 0; l < 2; l++) {
                boolean there = e < elements && l < (kind == 2 ? 2 : 1);
                Check.same("leg " + l + " of element " + e + " of " + call, "" + (x.where(0, e, l) >= 0), "" + there);
            }
        }
    }

    private static void aTableIsWrittenIn51Words() {
        ExtentShelf x = Shelves.with(8, 7, 0, 6);
        x.make(1, 3, 3);
        x.make(1, 2, 4);
        x.make(0, 1, 5);
        x.make(2, 1, 1);
        TableWords table = new TableWords(7, 8, 7, 0, 6).volume(0, 1, 3, 0, 8, 24).volume(1, 1, 2, 1, 9, 2, 10)
                .volume(2, 0, 1, 3, 25, 4, 11, 26).volume(3, 2, 1, 5, 12);
        Check.same("disk 0", Shelves.words(x, 0, 0), table.text());
        Check.same("disk 1", Shelves.words(x, 1, 1), table.text());
        Check.same("disk 3", Shelves.words(x, 3, 0), table.text());
        Check.same("disk 2 is not listed", Shelves.words(x, 2, 0), "0 ".repeat(51));
    }

    private static void theFirstAndTheLastWordsOfATable() {
        ExtentShelf x = Shelves.with(0, 0, 0, 8);
        x.make(0, 1, 1);
        x.make(0, 1, 1);
        x.make(0, 1, 1);
        x.make(0, 1, 5);
        Check.due("number", () -> x.look(3, 0, 0), 5);
        Check.due("extents of disk 0", () -> x.look(3, 0, 1), 0);
        Check.due("extents of disk 3", () -> x.look(3, 0, 4), 8);
        Check.due("volume 0", () -> x.look(3, 0, 5), 1 + 0 + 4 + 32);
        Check.due("volume 3", () -> x.look(3, 0, 8), 1 + 0 + 4 + 32 * 5);
        Check.due("its element 4", () -> x.look(3, 0, 47), 1 + 8 * 3 + 7);
        Check.due("it has no leg 1", () -> x.look(3, 0, 48), 0);
        Check.due("number again", () -> x.look(3, 0, 50), 5);

        ExtentShelf twins = Shelves.with(8, 0, 0, 5);
        for (int v = 0; v < 3; v++) {
            twins.make(0, 1, 1);
        }
        twins.make(2, 1, 5);
        Check.same("twins", Shelves.legs(twins, 3), "3/24 4/25 5/26 6/27 7/28");
        Check.due("leg 1 of element 4 of volume 3", () -> twins.look(0, 1, 48), 1 + 8 * 3 + 4);
        Check.due("leg 0 of element 0 of volume 0", () -> twins.look(0, 1, 9), 1);
    }

    private static void aLegThatIsGoneIs0InATable() {
        ExtentShelf x = Shelves.with(4, 4);
        x.make(2, 1, 2);
        Shelves.takeOut(x, 0);
        x.write(0, 4, 1);
        TableWords one = new TableWords(5, 4, 4).volume(0, 2, 1, 0, 8, -1, 9);
        Check.same("one leg", Shelves.words(x, 1, 0), one.text());
        x.drop(0);
        TableWords both = new TableWords(7, 0, 4).volume(0, 2, 1, -1, 8, -1, 9);
        Check.same("both legs", Shelves.words(x, 1, 1), both.text());
    }

    /** In 512 calls no table comes near a sum that wraps; the greatest numbers are those of many changes. */
    private static void theSumOfAGreatTable() {
        ExtentShelf x = Shelves.with(8, 8, 8, 8);
        x.make(2, 1, 5);
        x.make(2, 1, 5);
        x.make(2, 1, 5);
        x.make(0, 1, 1);
        for (int i = 0; i < 230; i++) {
            x.delete(3);
            x.make(0, 1, 1);
        }
        Check.due("number()", x::number, 4 + 4 + 2 * 230);
        int s = x.look(0, 0, 0) == x.number() ? 0 : 1;
        int sum = 0;
        for (int i = 0; i < 49; i++) {
            sum += x.look(0, s, i) * (i + 1);
        }
        Check.due("its sum", () -> x.look(0, s, 49), sum);
        Check.due("start() finds it", () -> Shelves.restart(x), 468);
    }

    private static void nothingIsListedAtFirst() {
        ExtentShelf x = new ExtentShelf();
        Check.due("number()", x::number, 0);
        for (int d = 0; d < 4; d++) {
            int disk = d;
            Check.due("free(" + d + ")", () -> x.free(disk), -1);
            Check.noElement("volume(" + d + ", 0)", () -> x.volume(disk, 0));
        }
        Check.unsupported("make(0, 1, 1)", () -> x.make(0, 1, 1));
    }

    private static void aSlotOfZerosIsNotWhole() {
        ExtentShelf x = new ExtentShelf();
        Check.due("start() of four disks of zeros", () -> Shelves.restart(x), 0);
        Check.done("add(1, 4)", () -> x.add(1, 4));
        Check.due("start() takes no zeros of disk 0", () -> Shelves.restart(x), 1);
        Check.due("free(1)", () -> x.free(1), 4);
    }

    private static void aSlotThatLacksItsLastWordIsNotWhole() {
        for (int n = 0; n <= 51; n++) {
            ExtentShelf x = new ExtentShelf();
            x.cut(n);
            int words = n;
            if (n < 51) {
                Check.badState("add(3, 8) with " + n + " words", () -> x.add(3, 8));
            } else {
                Check.done("add(3, 8) with 51 words", () -> x.add(3, 8));
                x.off();
            }
            Check.due("start() after " + n + " words", x::start, words < 51 ? 0 : 1);
            Check.due("free(3) after " + n + " words", () -> x.free(3), words < 51 ? -1 : 8);
        }
    }

    private static void theFirstSlotIsWrittenIfNeitherIsWhole() {
        for (int n = 0; n < 51; n++) {
            ExtentShelf x = new ExtentShelf();
            x.cut(n);
            Check.badState("add(0, 4) with " + n + " words", () -> x.add(0, 4));
            x.start();
            x.add(0, 8);
            Check.same("slot 0 after " + n, Shelves.words(x, 0, 0), new TableWords(1, 8).text());
            Check.same("slot 1 after " + n, Shelves.words(x, 0, 1), "0 ".repeat(51));
        }
    }

    /** Both ways: the slot that a change left off in is written again, though its number may be the greater one. */
    private static void theSlotThatIsNotWholeIsWritten() {
        for (int slot = 0; slot < 2; slot++) {
            for (int n = 0; n < 51; n++) {
                ExtentShelf x = Shelves.with(4);
                x.make(0, 1, 1);
                if (slot == 1) {
                    x.make(0, 1, 1);
                }
                int number = x.number();
                String kept = Shelves.words(x, 0, 1 - slot);
                x.cut(n);
                Check.badState("delete(0) with " + n + " words", () -> x.delete(0));
                Check.due("start()", x::start, number);
                Check.same("the whole slot is left alone", Shelves.words(x, 0, 1 - slot), kept);
                x.grow(0, 1);
                Check.same("the next change leaves it alone too", Shelves.words(x, 0, 1 - slot), kept);
                int s = slot;
                Check.due("it is in the other one", () -> x.look(0, s, 50), number + 1);
                Check.due("and found", () -> Shelves.restart(x), number + 1);
                Check.due("with what was changed", () -> x.volume(0, 2), 2);
            }
        }
    }

    private static void theSlotWithTheLesserNumberIsWritten() {
        ExtentShelf x = Shelves.with(4);
        x.make(0, 1, 1);
        for (int number = 3; number < 12; number++) {
            x.make(0, 1, 1);
            Check.due("slot 0", () -> x.look(0, 0, 0), x.number() % 2 == 1 ? x.number() : x.number() - 1);
            Check.due("slot 1", () -> x.look(0, 1, 0), x.number() % 2 == 0 ? x.number() : x.number() - 1);
            x.delete(1);
            Check.due("start()", () -> Shelves.restart(x), x.number());
        }
    }

    private static void aNumberIs1More() {
        ExtentShelf x = new ExtentShelf();
        int[] number = {0};
        Runnable more = () -> Check.due("number()", x::number, ++number[0]);
        x.add(0, 8);
        more.run();
        x.add(1, 8);
        more.run();
        x.add(2, 8);
        more.run();
        x.make(2, 1, 1);
        more.run();
        x.grow(0, 4);
        more.run();
        x.shrink(0, 1);
        more.run();
        x.empty(0);
        for (int i = 0; i < 4; i++) {
            x.step();
        }
        more.run();
        x.remove(0);
        more.run();
        x.delete(0);
        more.run();
        Shelves.takeOut(x, 3);
        x.make(0, 1, 1);
        more.run();
    }

    private static void aNumberIs2MoreIfAListedDiskIsAbsent() {
        ExtentShelf x = Shelves.with(4, 4, 4);
        x.make(2, 1, 2);
        Check.same("twins", Shelves.legs(x, 0), "0/8 16/1 -1/-1 -1/-1 -1/-1");
        Check.due("number()", x::number, 4);
        Shelves.takeOut(x, 0);
        Check.due("start() without disk 0 is no change", x::number, 4);
        x.write(0, 0, 1);
        Check.due("write() beside an absent leg", x::number, 6);
        x.write(0, 0, 2);
        Check.due("write() beside one that is gone", x::number, 6);
        x.drop(0);
        Check.due("drop()", x::number, 8);
        x.mend(0);
        Check.due("mend(): every listed one is present again", x::number, 9);
    }

    private static void anAbsentDiskMayHaveTheNumberBetween() {
        ExtentShelf x = Shelves.with(4, 4);
        x.cut(4 + 51);
        Check.badState("make(0, 1, 1): only disk 0 has it", () -> x.make(0, 1, 1));
        x.plug(0, false);
        Check.due("start() without disk 0", x::start, 2);
        Check.due("drop(0)", () -> x.drop(0), 0);
        Check.due("number()", x::number, 4);
        Check.due("start() with disk 0, which has 3", () -> Shelves.putIn(x, 0), 4);
        Check.noElement("volume(0, 0)", () -> x.volume(0, 0));
        Check.due("free(0)", () -> x.free(0), -1);
    }

    private static void aChangeGoesToListedAndPresentDisksOnly() {
        ExtentShelf x = Shelves.with(4, 4, 4);
        x.make(2, 1, 1);
        Shelves.takeOut(x, 0);
        String absent = Shelves.words(x, 0, 0) + Shelves.words(x, 0, 1);
        x.write(0, 0, 1);
        Check.same("an absent one", Shelves.words(x, 0, 0) + Shelves.words(x, 0, 1), absent);
        Check.same("one that was never listed", Shelves.words(x, 3, 0) + Shelves.words(x, 3, 1), "0 ".repeat(102));
        Check.due("disk 1", () -> Math.max(x.look(1, 0, 50), x.look(1, 1, 50)), 6);
        Check.due("disk 2", () -> Math.max(x.look(2, 0, 50), x.look(2, 1, 50)), 6);
        Shelves.putIn(x, 0);
        String removed = Shelves.words(x, 2, 0) + Shelves.words(x, 2, 1);
        x.remove(2);
        x.grow(0, 1);
        Check.same("one that is listed no more", Shelves.words(x, 2, 0) + Shelves.words(x, 2, 1), removed);
    }

    private static void anAbsentDiskThatIsNotListedRefusesNothing() {
        ExtentShelf x = Shelves.with(4, 4);
        x.make(2, 1, 1);
        Shelves.takeOut(x, 3);
        Check.done("add(2, 4)", () -> x.add(2, 4));
        Check.due("make(0, 1, 1)", () -> x.make(0, 1, 1), 1);
        Check.due("grow(1, 1)", () -> x.grow(1, 1), 2);
        Check.due("shrink(1, 1)", () -> x.shrink(1, 1), 1);
        Check.done("delete(1)", () -> x.delete(1));
        Check.due("mend(0)", () -> x.mend(0), 0);
        Check.due("empty(2)", () -> x.empty(2), 0);
        Check.done("remove(2)", () -> x.remove(2));
    }

    private static void whatIsDoneWhileAListedDiskIsAbsent() {
        ExtentShelf x = Shelves.with(4, 4, 4);
        x.make(2, 1, 1);
        x.make(0, 1, 1);
        Shelves.takeOut(x, 0);
        Check.unsupported("add(3, 4)", () -> x.add(3, 4));
        Check.unsupported("remove(2)", () -> x.remove(2));
        Check.unsupported("make(0, 1, 1)", () -> x.make(0, 1, 1));
        Check.unsupported("grow(0, 1)", () -> x.grow(0, 1));
        x.write(0, 0, 1);
        Check.due("write(0, 1, 5)", () -> x.write(0, 1, 5), 1);
        Check.due("read(0, 1)", () -> x.read(0, 1), 5);
        Check.unsupported("mend(0)", () -> x.mend(0));
        Check.unsupported("delete(0)", () -> x.delete(0));
        Check.unsupported("empty(1)", () -> x.empty(1));
        Check.due("where(1, 0, 0)", () -> x.where(1, 0, 0), 16);
        Check.due("volume(1, 2)", () -> x.volume(1, 2), 1);
        Check.due("free(0)", () -> x.free(0), 4);
        Check.due("drop(0)", () -> x.drop(0), 0);
        Check.done("delete(0) after it", () -> x.delete(0));
    }

    /** Writes each word of a volume and looks where it is: due are the element and its word, two by two. */
    private static void wordsAreAt(ExtentShelf x, int... due) {
        for (int w = 0; w < due.length / 2; w++) {
            int word = w;
            x.write(0, w, 100 + w);
            int spot = x.where(0, due[2 * w], 0);
            Check.due("word " + w, () -> x.look(spot / 8, 2, 4 * (spot % 8) + due[2 * word + 1]), 100 + w);
        }
        for (int w = 0; w < due.length / 2; w++) {
            int word = w;
            Check.due("read(0, " + w + ")", () -> x.read(0, word), 100 + w);
        }
        int end = due.length / 2;
        Check.outOfBounds("read(0, " + end + ")", () -> x.read(0, end));
        Check.outOfBounds("read(0, -1)", () -> x.read(0, -1));
    }

    private static void wordsOfALinearVolume() {
        ExtentShelf x = Shelves.with(3, 3);
        x.make(0, 1, 5);
        wordsAreAt(x, 0, 0, 0, 1, 0, 2, 0, 3, 1, 0, 1, 1, 1, 2, 1, 3, 2, 0, 2, 1, 2, 2, 2, 3,
                3, 0, 3, 1, 3, 2, 3, 3, 4, 0, 4, 1, 4, 2, 4, 3);
    }

    private static void wordsOfTwoColumns() {
        ExtentShelf x = Shelves.with(4, 2);
        x.make(1, 2, 4);
        wordsAreAt(x, 0, 0, 1, 0, 0, 1, 1, 1, 0, 2, 1, 2, 0, 3, 1, 3,
                2, 0, 3, 0, 2, 1, 3, 1, 2, 2, 3, 2, 2, 3, 3, 3);
    }

    private static void wordsOfThreeColumns() {
        ExtentShelf x = Shelves.with(2, 0, 2, 2);
        x.make(1, 3, 3);
        wordsAreAt(x, 0, 0, 1, 0, 2, 0, 0, 1, 1, 1, 2, 1, 0, 2, 1, 2, 2, 2, 0, 3, 1, 3, 2, 3);
    }
}

import java.util.NoSuchElementException;

/** Boundary cases of reading, one test for each sentence: Terms, promises 10, 14 to 16 and 19. */
public final class ReadingEdgesTest {
    private static final Class<IllegalArgumentException> ARGUMENT = IllegalArgumentException.class;
    private static final Class<IllegalStateException> STATE = IllegalStateException.class;
    private static final Class<NoSuchElementException> ELEMENT = NoSuchElementException.class;
    private static final int[] KIND_SIZES = {1, 1, 2, 2, 4, 8};

    public static void main(String[] args) {
        readBooleans();
        readChars();
        readWithSign();
        placeAtFirst();
        notInBlockModeAtFirst();
        leftAtFirst();
        plainBytes();
        shortNumbers();
        longNumbers();
        numbersBelowZero();
        resets();
        endingMarks();
        noByteEnds();
        corruptMarks();
        cutHeaders();
        leftBytes();
        leftWithoutBytes();
        dataEndBeforeEnough();
        corruptBeforeEnough();
        kindsOutOfRange();
        numbersOverBlocks();
        readBlocksWithoutChange();
        readBlocksInABlock();
        readBlocksAnswersPlace();
        skipCounts();
        skipUpToTheEnd();
        skipMeetsCorrupt();
        skipKeepsWhatItPassed();
        skipLooksNoFurther();
        rewindGoesBack();
        rewindAnswersTheLength();
        stateRange();
        resetsOfThrowingCalls();
        resetsAndRewind();
        noNumberOfTheLastCall();
        Check.finish();
    }

    private static void readBooleans() {
        Check.sentence("NUMBERS", "boolean: 1 if the byte is not 0, else 0");
        for (int value = 0; value < 256; value++) {
            Check.same("byte " + value, Bytes.log(value).read(0), value == 0 ? 0 : 1);
        }
    }

    private static void readChars() {
        Check.sentence("NUMBERS", "char: 0 .. 65535");
        Check.same("0", Bytes.log(0, 0).read(2), 0);
        Check.same("255", Bytes.log(0, 255).read(2), 255);
        Check.same("32768", Bytes.log(0x80, 0).read(2), 32768);
        Check.same("65535", Bytes.log(255, 255).read(2), 65535);
    }

    private static void readWithSign() {
        Check.sentence("NUMBERS", "the others with their sign");
        long[] largest = {0, Byte.MAX_VALUE, 0, Short.MAX_VALUE, Integer.MAX_VALUE, Long.MAX_VALUE};
        for (int kind : new int[] {1, 3, 4, 5}) {
            int[] bytes = Bytes.repeated(KIND_SIZES[kind], 255);
            Check.same("kind " + kind + ", all ones", Bytes.log(bytes).read(kind), -1);
            bytes[0] = 127;
            Check.same("kind " + kind + ", largest", Bytes.log(bytes).read(kind), largest[kind]);
            int[] least = new int[bytes.length];
            least[0] = 128;
            Check.same("kind " + kind + ", least", Bytes.log(least).read(kind), -largest[kind] - 1);
        }
        Check.same("an int whose lower half is below 0", Bytes.log(0, 0, 255, 255).read(4), 65535);
        WireData half = Bytes.log(0, 0, 0, 0, 255, 255, 255, 255);
        Check.same("a long whose lower half is below 0", half.read(5), 0xFFFFFFFFL);
    }

    private static void placeAtFirst() {
        Check.sentence("LOG", "PLACE is where reading goes on, 0 at first");
        WireData data = new WireData();
        Check.same("PLACE", data.state(2), 0);
        Bytes.add(data, 5, 6);
        Check.same("PLACE after writing", data.state(2), 0);
        Check.same("the first byte", data.read(1), 5);
        Check.same("PLACE behind it", data.state(2), 1);
        Check.same("where reading goes on", data.read(1), 6);
    }

    private static void notInBlockModeAtFirst() {
        Check.sentence("READING", "in block mode or not (not at first)");
        WireData data = Bytes.log(0x77, 1, 5);
        Check.same("a byte", data.read(1), 0x77);
        Check.states("a byte", data, 3, 0, 1, 0, 0, 0);
        WireData mark = Bytes.log(0x6F, 0x79);
        Check.same("no CORRUPT, and no RESET", mark.read(3), 0x6F79);
        Check.same("RESETS", mark.state(4), 0);
    }

    private static void leftAtFirst() {
        Check.sentence("READING", "there are LEFT bytes of the present block, 0 at first");
        WireData data = Bytes.blocks(0x77, 2, 5, 6);
        Check.same("LEFT before a byte is looked for", data.state(3), 0);
        data.read(1);
        Check.same("LEFT behind the first of two", data.state(3), 1);
        data.read(1);
        Check.same("LEFT behind the last", data.state(3), 0);
    }

    private static void plainBytes() {
        Check.sentence("NEXT BYTE OF DATA", "not in block mode, the one at PLACE, if there is one");
        WireData data = Bytes.log(1);
        Check.same("one byte", data.read(1), 1);
        Check.refused("behind it", ELEMENT, () -> data.read(1));
        Check.states("behind it", data, 1, 0, 1, 0, 0, 0);
        data.raw(2, 1);
        Check.same("one that came later", data.read(1), 2);
        WireData pending = new WireData();
        pending.blocks(true);
        pending.write(1, 3);
        Check.refused("a pending one", ELEMENT, () -> pending.read(1));
        pending.flush();
        Check.same("after flush", pending.read(1), 0x77);
    }

    private static void shortNumbers() {
        Check.sentence("NEXT BYTE OF DATA", "the byte at PLACE is 77: one byte more is the number n");
        WireData one = Bytes.blocks(0x77, 1, 5);
        Check.same("n 1", one.read(1), 5);
        Check.states("n 1", one, 3, 0, 3, 0, 0, 0);
        for (int n : new int[] {2, 127, 128, 255}) {
            WireData data = Bytes.blocks(0x77, n, 5);
            Check.same("n " + n, data.read(1), 5);
            Check.states("n " + n, data, 3, 0, 3, n - 1, 0, 0);
        }
        WireData none = Bytes.blocks(0x77, 0, 0x77, 0, 0x77, 1, 6);
        Check.same("n 0, twice", none.read(1), 6);
        Check.states("n 0, twice", none, 7, 0, 7, 0, 0, 0);
    }

    private static void longNumbers() {
        Check.sentence("NEXT BYTE OF DATA", "7A: four bytes more, n; then PLACE is behind them and LEFT is n");
        int[][] numbers = {{0, 0, 0, 1}, {0, 0, 0, 255}, {0, 0, 1, 0}, {0, 0, 0x80, 0}, {0, 1, 0, 0}, {1, 0, 0, 0},
            {127, 255, 255, 255}};
        int[] left = {0, 254, 255, 0x7FFF, 0xFFFF, 0xFFFFFF, Integer.MAX_VALUE - 1};
        for (int i = 0; i < numbers.length; i++) {
            int[] n = numbers[i];
            WireData data = Bytes.blocks(0x7A, n[0], n[1], n[2], n[3], 9);
            Check.same("n - 1 is " + left[i], data.read(1), 9);
            Check.states("n - 1 is " + left[i], data, 6, 0, 6, left[i], 0, 0);
        }
        WireData none = Bytes.blocks(0x7A, 0, 0, 0, 0, 0x7A, 0, 0, 0, 1, 8);
        Check.same("n 0", none.read(1), 8);
    }

    private static void numbersBelowZero() {
        Check.sentence("NEXT BYTE OF DATA", "CORRUPT if .. n is below 0");
        int[][] numbers = {{128, 0, 0, 0}, {255, 255, 255, 255}, {128, 0, 0, 1}, {255, 0, 0, 0}};
        for (int[] n : numbers) {
            WireData data = Bytes.blocks(0x7A, n[0], n[1], n[2], n[3], 0x77, 1, 5);
            Check.refused("read", STATE, () -> data.read(1));
            Check.refused("skip", STATE, () -> data.skip(1));
            Check.states("refused calls", data, 8, 0, 0, 0, 0, 0);
            Check.refused("at the end", STATE, () -> Bytes.blocks(0x7A, n[0], n[1], n[2], n[3]).read(1));
        }
    }

    private static void resets() {
        Check.sentence("NEXT BYTE OF DATA", "79: PLACE is behind it, and it counts as a RESET");
        WireData data = Bytes.blocks(0x79, 0x79, 0x77, 0, 0x79, 0x77, 2, 0x79, 0x79, 0x79);
        Check.same("a byte behind three", data.read(1), 0x79);
        Check.states("a byte behind three", data, 10, 0, 8, 1, 3, 0);
        Check.same("a 79 in a block is a byte", data.read(1), 0x79);
        Check.states("a 79 in a block is a byte", data, 10, 0, 9, 0, 3, 0);
        Check.same("one behind the last block", data.skip(1), 0);
        Check.states("one behind the last block", data, 10, 0, 10, 0, 4, 0);
    }

    private static void endingMarks() {
        Check.sentence("NEXT BYTE OF DATA", "any other byte ends the data (of 70 .. 7E)");
        for (int mark : new int[] {0x70, 0x71, 0x72, 0x73, 0x74, 0x75, 0x76, 0x78, 0x7B, 0x7C, 0x7D, 0x7E}) {
            WireData data = Bytes.blocks(mark, 0x77, 1, 5);
            Check.refused("read at " + mark, ELEMENT, () -> data.read(1));
            Check.same("skip at " + mark, data.skip(3), 0);
            Check.states("at " + mark, data, 4, 0, 0, 0, 0, 0);
        }
        Check.refused("an end before CORRUPT", ELEMENT, () -> Bytes.blocks(0x78, 0x6F).read(1));
    }

    private static void noByteEnds() {
        Check.sentence("NEXT BYTE OF DATA", "any other byte, or none, ends the data");
        Check.refused("an empty LOG", ELEMENT, () -> Bytes.blocks().read(1));
        Check.same("an empty LOG, skip", Bytes.blocks().skip(1), 0);
        Check.refused("behind a RESET", ELEMENT, () -> Bytes.blocks(0x79).read(1));
        Check.refused("behind an empty block", ELEMENT, () -> Bytes.blocks(0x77, 0).read(1));
        Check.refused("behind a long empty block", ELEMENT, () -> Bytes.blocks(0x7A, 0, 0, 0, 0).read(1));
        Check.refused("behind a whole block", ELEMENT, () -> Bytes.blocks(0x77, 1, 5).read(3));
    }

    private static void corruptMarks() {
        Check.sentence("NEXT BYTE OF DATA", "but it is CORRUPT if it is none of 70 .. 7E");
        for (int mark = 0; mark < 256; mark++) {
            if (mark < 0x70 || mark > 0x7E) {
                WireData data = Bytes.blocks(mark, 0x77, 1, 5);
                Check.refused("read at " + mark, STATE, () -> data.read(1));
                Check.refused("skip at " + mark, STATE, () -> data.skip(1));
                Check.states("at " + mark, data, 4, 0, 0, 0, 0, 0);
            }
        }
    }

    private static void cutHeaders() {
        Check.sentence("NEXT BYTE OF DATA",
                "CORRUPT if .. a 77 or 7A has not as many bytes behind it as it needs for n");
        int[][] cut = {{0x77}, {0x7A}, {0x7A, 0}, {0x7A, 0, 0}, {0x7A, 0, 0, 0}};
        for (int[] bytes : cut) {
            WireData data = Bytes.blocks(bytes);
            Check.refused("read, header of " + bytes.length, STATE, () -> data.read(1));
            Check.refused("skip, header of " + bytes.length, STATE, () -> data.skip(1));
            Check.states("header of " + bytes.length, data, bytes.length, 0, 0, 0, 0, 0);
        }
        // With its last byte the header is whole; then only the data are missing.
        Check.refused("77 and one byte", ELEMENT, () -> Bytes.blocks(0x77, 1).read(1));
        Check.refused("7A and four bytes", ELEMENT, () -> Bytes.blocks(0x7A, 0, 0, 0, 1).read(1));
        WireData later = Bytes.blocks(0x7A, 0, 0, 0);
        Bytes.add(later, 1, 8);
        Check.same("the rest came later", later.read(1), 8);
    }

    private static void leftBytes() {
        Check.sentence("NEXT BYTE OF DATA", "If LEFT is not 0, the one at PLACE, .. and LEFT is one less");
        WireData data = Bytes.blocks(0x77, 5, 0x77, 0x7A, 0x79, 0x6F, 0x70, 0x77, 1, 5);
        int[] bytes = {0x77, 0x7A, 0x79, 0x6F, 0x70};
        for (int i = 0; i < bytes.length; i++) {
            Check.same("byte " + i, data.read(1), bytes[i]);
            Check.states("byte " + i, data, 10, 0, 3 + i, 4 - i, 0, 0);
        }
        Check.same("the next block", data.read(1), 5);
        WireData plain = Bytes.log(1, 2);
        plain.read(1);
        Check.same("LEFT when not in block mode", plain.state(3), 0);
    }

    private static void leftWithoutBytes() {
        Check.sentence("NEXT BYTE OF DATA", "If LEFT is not 0, the one at PLACE, if there is one");
        WireData data = Bytes.blocks(0x77, 3, 1);
        Check.same("the only byte", data.read(1), 1);
        Check.refused("behind it", ELEMENT, () -> data.read(1));
        Check.same("behind it, skip", data.skip(1), 0);
        Check.states("behind it", data, 3, 0, 3, 2, 0, 0);
        Bytes.add(data, 0x6F);
        Check.same("one that came later", data.read(1), 0x6F);
        Check.states("one that came later", data, 4, 0, 4, 1, 0, 0);
    }

    private static void dataEndBeforeEnough() {
        Check.sentence("Exceptions", "NoSuchElementException: the data end before the call has what it needs");
        for (int kind = 0; kind < 6; kind++) {
            int one = kind;
            int size = KIND_SIZES[kind];
            WireData data = Bytes.log(Bytes.repeated(size - 1, 1));
            Check.refused("kind " + kind + " of a byte too few", ELEMENT, () -> data.read(one));
            Check.same("PLACE", data.state(2), 0);
            data.raw(1, 1);
            Check.isTrue("kind " + kind + " of enough", data.read(kind) != 0);
            Check.same("PLACE", data.state(2), size);
        }
        WireData blocks = Bytes.blocks(0x77, 3, 1, 2, 3, 0x7E, 0x6F);
        Check.refused("an end in blocks", ELEMENT, () -> blocks.read(4));
        Check.same("enough in blocks", blocks.read(2), 0x0102);
    }

    private static void corruptBeforeEnough() {
        Check.sentence("Exceptions", "IllegalStateException: CORRUPT is met before that");
        WireData data = Bytes.blocks(0x77, 2, 1, 2, 0x6F);
        Check.refused("CORRUPT in an int", STATE, () -> data.read(4));
        Check.states("CORRUPT in an int", data, 5, 0, 0, 0, 0, 0);
        Check.same("CORRUPT behind a char", data.read(2), 0x0102);
        Check.states("CORRUPT behind a char", data, 5, 0, 4, 0, 0, 0);
        Check.refused("CORRUPT at once", STATE, () -> data.read(0));
        Check.same("skip of nothing at CORRUPT", data.skip(0), 0);
    }

    private static void kindsOutOfRange() {
        Check.sentence("Promise 10", "Reads a number of kind 0 .. 5");
        WireData data = Bytes.log(1, 2, 3, 4, 5, 6, 7, 8);
        for (int kind : new int[] {-1, 6, Integer.MIN_VALUE, Integer.MAX_VALUE}) {
            Check.refused("kind " + kind, ARGUMENT, () -> data.read(kind));
        }
        Check.same("kind 5", data.read(5), 0x0102030405060708L);
        data.rewind();
        Check.same("kind 0", data.read(0), 1);
    }

    private static void numbersOverBlocks() {
        Check.sentence("Promise 10", "from the next bytes of data");
        WireData data = Bytes.blocks(0x77, 1, 1, 0x79, 0x77, 0, 0x7A, 0, 0, 0, 2, 2, 3, 0x79, 0x77, 2, 4, 5);
        Check.same("an int of three blocks", data.read(4), 0x01020304);
        Check.states("an int of three blocks", data, 18, 0, 17, 1, 2, 0);
        Check.same("the byte behind it", data.read(1), 5);
    }

    private static void readBlocksWithoutChange() {
        Check.sentence("Promise 14", "That is no change: nothing");
        WireData data = Bytes.log(0x77, 2, 1, 2);
        Check.same("off when off", data.readBlocks(false), 0);
        data.readBlocks(true);
        Check.same("on when on", data.readBlocks(true), 0);
        data.read(1);
        Check.same("on when on, in a block", data.readBlocks(true), 3);
        Check.states("on when on, in a block", data, 4, 0, 3, 1, 0, 0);
        Check.same("the block goes on", data.read(1), 2);
    }

    private static void readBlocksInABlock() {
        Check.sentence("Promise 14", "It was in block mode and LEFT is not 0: IllegalStateException");
        WireData data = Bytes.blocks(0x77, 2, 1, 2, 7);
        data.read(1);
        Check.refused("off, LEFT 1", STATE, () -> data.readBlocks(false));
        Check.states("off, LEFT 1", data, 5, 0, 3, 1, 0, 0);
        data.read(1);
        Check.same("off, LEFT 0", data.readBlocks(false), 4);
        Check.same("plain", data.read(1), 7);
        WireData empty = Bytes.blocks(0x77, 0);
        empty.skip(1);
        Check.same("off, behind an empty block", empty.readBlocks(false), 2);
        WireData fresh = Bytes.blocks(0x77, 2, 1, 2);
        Check.same("off, before any block", fresh.readBlocks(false), 0);
        Check.same("plain from there", fresh.read(1), 0x77);
    }

    private static void readBlocksAnswersPlace() {
        Check.sentence("Promise 14", "Answers PLACE");
        WireData data = Bytes.log(1, 2, 3, 0x77, 1, 5);
        data.skip(3);
        Check.same("on", data.readBlocks(true), 3);
        data.read(1);
        Check.same("off at the end", data.readBlocks(false), 6);
        Check.same("on at the end", data.readBlocks(true), 6);
    }

    private static void skipCounts() {
        Check.sentence("Promise 15", "count 0 .. 1500");
        WireData data = new WireData();
        data.blocks(true);
        Bytes.fill(data, 1500 - 5);
        data.blocks(false);
        Check.same("length", data.state(0), 1505);
        for (int count : new int[] {-1, 1501, Integer.MIN_VALUE, Integer.MAX_VALUE}) {
            Check.refused("count " + count, ARGUMENT, () -> data.skip(count));
        }
        Check.same("0", data.skip(0), 0);
        Check.same("PLACE after 0", data.state(2), 0);
        Check.same("1500", data.skip(1500), 1500);
        Check.same("PLACE after 1500", data.state(2), 1500);
    }

    private static void skipUpToTheEnd() {
        Check.sentence("Promise 15", "or as many as there are before the data end .. Answers how many");
        WireData plain = Bytes.log(1, 2, 3);
        Check.same("more than there are", plain.skip(4), 3);
        Check.same("at the end", plain.skip(1), 0);
        Check.states("at the end", plain, 3, 0, 3, 0, 0, 0);
        WireData just = Bytes.log(1, 2, 3);
        Check.same("just as many", just.skip(3), 3);
        WireData blocks = Bytes.blocks(0x77, 2, 1, 2, 0x77, 3, 3, 0x7E);
        Check.same("all bytes of blocks, 7E one of them", blocks.skip(1500), 4);
        Check.states("all bytes of blocks", blocks, 8, 0, 8, 1, 0, 0);
        WireData marked = Bytes.blocks(0x77, 2, 1, 2, 0x7E, 0x77, 1, 3);
        Check.same("up to a mark", marked.skip(9), 2);
        Check.states("up to a mark", marked, 8, 0, 4, 0, 0, 0);
        Check.same("an empty LOG", new WireData().skip(1500), 0);
    }

    private static void skipMeetsCorrupt() {
        Check.sentence("Promise 15", "CORRUPT met on the way: IllegalStateException");
        WireData data = Bytes.blocks(0x79, 0x77, 2, 1, 2, 0x79, 0x6F);
        Check.refused("three", STATE, () -> data.skip(3));
        Check.refused("1500", STATE, () -> data.skip(1500));
        Check.states("nothing is passed", data, 7, 0, 0, 0, 0, 0);
        Check.same("two, as far as CORRUPT", data.skip(2), 2);
        Check.refused("one at CORRUPT", STATE, () -> data.skip(1));
        Check.same("none at CORRUPT", data.skip(0), 0);
        Check.states("the RESET before it", data, 7, 0, 5, 0, 1, 0);
    }

    private static void skipKeepsWhatItPassed() {
        Check.sentence("Promise 15", "RESETS and empty blocks that are met in looking for a byte stay passed, "
                + "also if then the data end");
        WireData none = Bytes.blocks(0x79, 0x77, 0, 0x7A, 0, 0, 0, 0, 0x79);
        Check.same("up to no byte", none.skip(1), 0);
        Check.states("up to no byte", none, 9, 0, 9, 0, 2, 0);
        WireData mark = Bytes.blocks(0x79, 0x77, 0, 0x78);
        Check.same("up to a mark", mark.skip(2), 0);
        Check.states("up to a mark", mark, 4, 0, 3, 0, 1, 0);
        WireData behind = Bytes.blocks(0x77, 1, 5, 0x79, 0x79, 0x77, 0);
        Check.same("behind a byte", behind.skip(2), 1);
        Check.states("behind a byte", behind, 7, 0, 7, 0, 2, 0);
        WireData header = Bytes.blocks(0x79, 0x77, 2);
        Check.same("a block without its bytes", header.skip(1), 0);
        Check.states("a block without its bytes", header, 3, 0, 3, 2, 1, 0);
    }

    private static void skipLooksNoFurther() {
        Check.sentence("Promise 15", "that are met in looking for a byte: none is looked for behind the last");
        WireData data = Bytes.blocks(0x79, 0x77, 1, 5, 0x79, 0x77, 0);
        Check.same("none", data.skip(0), 0);
        Check.states("none", data, 7, 0, 0, 0, 0, 0);
        Check.same("one", data.skip(1), 1);
        Check.states("one", data, 7, 0, 4, 0, 1, 0);
    }

    private static void rewindGoesBack() {
        Check.sentence("Promise 16", "PLACE is 0, READING not in block mode, LEFT 0");
        WireData data = Bytes.blocks(0x77, 3, 1, 2, 3);
        data.read(1);
        data.rewind();
        Check.states("in a block", data, 5, 0, 0, 0, 0, 0);
        Check.same("readBlocks(false) is no change", data.readBlocks(false), 0);
        Check.same("a plain byte", data.read(1), 0x77);
        data.rewind();
        Check.same("plain", data.state(2), 0);
        WireData writing = new WireData();
        writing.blocks(true);
        writing.write(1, 1);
        writing.rewind();
        Check.states("WRITING is not touched", writing, 0, 1, 0, 0, 0, 0);
        writing.write(1, 1);
        Check.same("WRITING is still in block mode", writing.state(1), 2);
    }

    private static void rewindAnswersTheLength() {
        Check.sentence("Promise 16", "Answers the LOG's length");
        WireData data = new WireData();
        Check.same("an empty LOG", data.rewind(), 0);
        data.raw(1, 3);
        Check.same("three bytes", data.rewind(), 3);
        data.read(1);
        Check.same("three bytes, one read", data.rewind(), 3);
        data.blocks(true);
        data.write(1, 1);
        Check.same("a pending byte", data.rewind(), 3);
    }

    private static void stateRange() {
        Check.sentence("Promise 19", "What: 0 .. 5. Else IllegalArgumentException");
        WireData data = new WireData();
        for (int what : new int[] {-1, 6, Integer.MIN_VALUE, Integer.MAX_VALUE}) {
            Check.refused("what " + what, ARGUMENT, () -> data.state(what));
        }
        data.raw(0x7F800001L, 4);
        data.readFloat();
        Bytes.add(data, 0x79, 0x79, 0x77, 7, 1, 2);
        data.readBlocks(true);
        data.read(1);
        data.blocks(true);
        data.write(4, 1);
        Check.states("all six", data, 10, 4, 9, 6, 2, 1);
    }

    private static void resetsOfThrowingCalls() {
        Check.sentence("Promise 19", "RESETS so far (those that a call passed that threw not counted)");
        WireData data = Bytes.blocks(0x79, 0x77, 1, 5, 0x79, 0x79);
        Check.refused("the data end", ELEMENT, () -> data.read(3));
        Check.same("RESETS", data.state(4), 0);
        Check.same("a byte", data.read(1), 5);
        Check.same("RESETS", data.state(4), 1);
        Check.refused("the data end", ELEMENT, () -> data.read(1));
        Check.same("RESETS", data.state(4), 1);
        Bytes.add(data, 0x6F);
        Check.refused("CORRUPT", STATE, () -> data.skip(1));
        Check.refused("CORRUPT", STATE, data::readDouble);
        Check.same("RESETS", data.state(4), 1);
        WireData text = Bytes.blocks(0x79, 0x77, 3, 0, 1, 0x80);
        Check.refused("a malformed text", ARGUMENT, text::readText);
        Check.same("RESETS", text.state(4), 0);
    }

    private static void resetsAndRewind() {
        Check.sentence("Promise 19", "rewind does not change them");
        WireData data = Bytes.blocks(0x79, 0x79, 0x77, 1, 5);
        data.read(1);
        data.rewind();
        Check.same("RESETS", data.state(4), 2);
        data.readBlocks(true);
        data.read(1);
        Check.same("RESETS, met again", data.state(4), 4);
        data.rewind();
        data.read(1);
        Check.same("a plain 79 is none", data.state(4), 4);
    }

    private static void noNumberOfTheLastCall() {
        Check.sentence("Promise 19", "5: 1 if the last call of readFloat or readDouble that threw nothing "
                + "met NO NUMBER, else 0 (0 before the first)");
        WireData data = new WireData();
        Check.same("before the first", data.state(5), 0);
        data.raw(0x7F800001L, 4);
        data.raw(0x3F800000L, 4);
        data.raw(0x7FF0000000000001L, 8);
        data.raw(0, 8);
        data.raw(0x7FC00000L, 4);
        data.raw(1, 3);
        data.readFloat();
        Check.same("a float without a number", data.state(5), 1);
        data.readFloat();
        Check.same("a float 1", data.state(5), 0);
        data.readDouble();
        Check.same("a double without a number", data.state(5), 1);
        data.readDouble();
        Check.same("a double 0", data.state(5), 0);
        Check.refused("too few bytes, a number before", ELEMENT, () -> readTwice(data));
        Check.same("the float before it", data.state(5), 1);
        Check.refused("too few bytes", ELEMENT, data::readFloat);
        Check.same("a call that threw", data.state(5), 1);
        data.read(1);
        data.skip(1);
        data.rewind();
        data.read(4);
        Check.same("calls that read no floating value", data.state(5), 1);
    }

    private static double readTwice(WireData data) {
        data.readFloat();
        return data.readDouble();
    }
}

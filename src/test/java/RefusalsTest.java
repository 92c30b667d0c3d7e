import java.util.NoSuchElementException;

/** The order in which exceptions are tested, and that a call that throws or answers FULL changes nothing. */
public final class RefusalsTest {
    private static final Class<IllegalArgumentException> ARGUMENT = IllegalArgumentException.class;
    private static final Class<IllegalStateException> STATE = IllegalStateException.class;
    private static final Class<NoSuchElementException> ELEMENT = NoSuchElementException.class;

    public static void main(String[] args) {
        rangesComeBeforeTheState();
        rangesComeBeforeFull();
        rangesComeBeforeTheData();
        outOfRangeChangesNothing();
        theStateRefusedChangesNothing();
        corruptChangesNothing();
        dataEndChangesNothing();
        plainDataEndChangesNothing();
        malformedTextChangesNothing();
        fullLogChangesNothing();
        fullInBlockModeChangesNothing();
        fullBesideABlockChangesNothing();
        Check.finish();
    }

    /**
     * All that can be set is set: NO NUMBER was met, the text buffer has codes, bytes are pending, and a block,
     * behind a RESET, has three bytes left; behind it come a RESET and the bytes given.
     */
    private static void muchHasHappened(WireData data, int... behind) {
        data.raw(0x7F800001L, 4);
        Bytes.add(data, 0x79, 0x77, 4, 1, 0, 3, 0x41, 0x79);
        Bytes.add(data, behind);
        data.readFloat();
        data.readBlocks(true);
        data.read(1);
        data.put(0, 0x42);
        data.put(1, 0x800);
        data.put(39, 65535);
        data.blocks(true);
        data.write(2, 0x1234);
        data.write(1, 9);
    }

    private static void rangesComeBeforeTheState() {
        Check.sentence("Exceptions", "a number out of range (tested first): before IllegalStateException");
        WireData data = new WireData();
        data.blocks(true);
        Check.refused("raw of 0 in block mode", ARGUMENT, () -> data.raw(1, 0));
        Check.refused("raw of 9 in block mode", ARGUMENT, () -> data.raw(1, 9));
        Check.refused("raw of 8 in block mode", STATE, () -> data.raw(1, 8));
        WireData corrupt = Bytes.blocks(0x6F);
        Check.refused("read of kind 6 at CORRUPT", ARGUMENT, () -> corrupt.read(6));
        Check.refused("read of kind -1 at CORRUPT", ARGUMENT, () -> corrupt.read(-1));
        Check.refused("skip of 1501 at CORRUPT", ARGUMENT, () -> corrupt.skip(1501));
        Check.refused("skip of -1 at CORRUPT", ARGUMENT, () -> corrupt.skip(-1));
    }

    private static void rangesComeBeforeFull() {
        Check.sentence("Exceptions", "a number out of range (tested first): before FULL");
        WireData data = new WireData();
        Bytes.fill(data, 1500);
        Check.refused("raw of 0", ARGUMENT, () -> data.raw(1, 0));
        Check.refused("raw of 9", ARGUMENT, () -> data.raw(1, 9));
        Check.refused("write of kind 6", ARGUMENT, () -> data.write(6, 1));
        Check.refused("write of kind -1", ARGUMENT, () -> data.write(-1, 1));
        Check.refused("writeFloat by 301", ARGUMENT, () -> data.writeFloat(1, 301));
        Check.refused("writeDouble by -2201", ARGUMENT, () -> data.writeDouble(1, -2201));
        Check.refused("writeText of 41", ARGUMENT, () -> data.writeText(41));
        Check.refused("writeText of -1", ARGUMENT, () -> data.writeText(-1));
    }

    private static void rangesComeBeforeTheData() {
        Check.sentence("Exceptions", "a number out of range (tested first): before NoSuchElementException");
        Check.refused("read of kind 6", ARGUMENT, () -> new WireData().read(6));
        Check.refused("read of kind -1", ARGUMENT, () -> new WireData().read(-1));
        Check.refused("read of kind 6 in block mode", ARGUMENT, () -> Bytes.blocks().read(6));
        Check.refused("skip of 1501", ARGUMENT, () -> new WireData().skip(1501));
    }

    private static void outOfRangeChangesNothing() {
        Check.sentence("Exceptions", "A call that throws changes nothing: a number out of range");
        Twins twins = new Twins("in blocks", data -> muchHasHappened(data, 0x70));
        for (int wrong : new int[] {-1, 6, Integer.MIN_VALUE, Integer.MAX_VALUE}) {
            twins.throwing("write of kind " + wrong, ARGUMENT, data -> data.write(wrong, 1));
            twins.throwing("read of kind " + wrong, ARGUMENT, data -> data.read(wrong));
            twins.throwing("state of " + wrong, ARGUMENT, data -> data.state(wrong));
        }
        for (int wrong : new int[] {-1, 41, Integer.MIN_VALUE, Integer.MAX_VALUE}) {
            twins.throwing("writeText of " + wrong, ARGUMENT, data -> data.writeText(wrong));
        }
        for (int wrong : new int[] {-1, 40, Integer.MIN_VALUE, Integer.MAX_VALUE}) {
            twins.throwing("put at " + wrong, ARGUMENT, data -> data.put(wrong, 7));
            twins.throwing("code at " + wrong, ARGUMENT, data -> data.code(wrong));
        }
        twins.throwing("put of -1", ARGUMENT, data -> data.put(0, -1));
        twins.throwing("put of 65536", ARGUMENT, data -> data.put(39, 65536));
        twins.throwing("writeFloat by 301", ARGUMENT, data -> data.writeFloat(1, 301));
        twins.throwing("writeFloat by -301", ARGUMENT, data -> data.writeFloat(1, -301));
        twins.throwing("writeDouble by 2201", ARGUMENT, data -> data.writeDouble(1, 2201));
        twins.throwing("writeDouble by -2201", ARGUMENT, data -> data.writeDouble(1, -2201));
        twins.throwing("skip of -1", ARGUMENT, data -> data.skip(-1));
        twins.throwing("skip of 1501", ARGUMENT, data -> data.skip(1501));
        Twins plain = new Twins("plain", data -> Bytes.add(data, 1, 2));
        plain.throwing("raw of 0", ARGUMENT, data -> data.raw(1, 0));
        plain.throwing("raw of 9", ARGUMENT, data -> data.raw(1, 9));
    }

    private static void theStateRefusedChangesNothing() {
        Check.sentence("Exceptions", "A call that throws changes nothing: raw and readBlocks in block mode");
        Twins twins = new Twins("in blocks", data -> muchHasHappened(data, 0x70));
        twins.throwing("raw of 1", STATE, data -> data.raw(1, 1));
        twins.throwing("raw of 8", STATE, data -> data.raw(-1, 8));
        twins.throwing("readBlocks(false)", STATE, data -> data.readBlocks(false));
    }

    /** The calls that need more than the three bytes left in the block. */
    private static void readingCalls(Twins twins, Class<? extends RuntimeException> due) {
        twins.throwing("read of an int", due, data -> data.read(4));
        twins.throwing("read of a long", due, data -> data.read(5));
        twins.throwing("readFloat", due, WireData::readFloat);
        twins.throwing("readDouble", due, WireData::readDouble);
        twins.throwing("readText", due, WireData::readText);
    }

    private static void corruptChangesNothing() {
        Check.sentence("Exceptions", "A call that throws changes nothing: CORRUPT is met");
        int[][] corrupt = {{0x6F, 1, 2, 3, 4}, {0x7F}, {0x77}, {0x7A, 0, 0, 0}, {0x7A, 128, 0, 0, 0, 1, 2, 3, 4},
            {0x79, 0x77, 0, 0x79, 0}};
        for (int[] bytes : corrupt) {
            Twins twins = new Twins("before " + bytes[0], data -> muchHasHappened(data, bytes));
            readingCalls(twins, STATE);
            twins.throwing("skip of 4", STATE, data -> data.skip(4));
            twins.throwing("skip of 1500", STATE, data -> data.skip(1500));
        }
    }

    private static void dataEndChangesNothing() {
        Check.sentence("Exceptions", "A call that throws changes nothing: the data end");
        int[][] ends = {{}, {0x70, 0x6F}, {0x7E}, {0x79}, {0x77, 0}, {0x77, 9}, {0x7A, 0, 0, 1, 0}};
        for (int[] bytes : ends) {
            readingCalls(new Twins("before the end", data -> muchHasHappened(data, bytes)), ELEMENT);
        }
    }

    private static void plainDataEndChangesNothing() {
        Check.sentence("Exceptions", "A call that throws changes nothing: the data end, not in block mode");
        Twins twins = new Twins("plain", data -> {
            Bytes.add(data, 5, 0, 9, 0x41);
            data.read(1);
            data.put(0, 7);
        });
        readingCalls(twins, ELEMENT);
        Twins none = new Twins("new", data -> data.put(0, 7));
        readingCalls(none, ELEMENT);
        none.throwing("read of a boolean", ELEMENT, data -> data.read(0));
    }

    private static void malformedTextChangesNothing() {
        Check.sentence("Exceptions", "A call that throws changes nothing: a text that is not formed as above");
        int[][] texts = {{0x80, 0x41}, {0xF0, 0x41}, {0xC2, 0x41}, {0x41, 0xC2}, {0xE2, 0x80}};
        for (int[] bytes : texts) {
            // The text in the past is 'A' and these two bytes.
            Twins twins = new Twins("malformed by " + bytes[0],
                    data -> muchHasHappened(data, 0x79, 0x77, 3, bytes[0], bytes[1], 9));
            twins.throwing("readText", ARGUMENT, WireData::readText);
        }
        Twins late = new Twins("malformed behind 40 codes", data -> {
            data.put(0, 7);
            data.put(39, 8);
            data.raw(41, 2);
            Bytes.add(data, Bytes.repeated(41, 0x42));
        });
        late.throwing("readText", ARGUMENT, WireData::readText);
    }

    private static void fullLogChangesNothing() {
        Check.sentence("Exceptions", "neither does one that answers FULL: a plain LOG");
        Twins twins = new Twins("1500 bytes", data -> Bytes.fill(data, 1500));
        for (int kind = 0; kind < 6; kind++) {
            int one = kind;
            twins.full("write of kind " + kind, data -> data.write(one, -1));
        }
        for (int count = 1; count <= 8; count++) {
            int one = count;
            twins.full("raw of " + count, data -> data.raw(-1, one));
        }
        twins.full("writeFloat", data -> data.writeFloat(1, 0));
        twins.full("writeDouble", data -> data.writeDouble(1, 0));
        twins.full("writeText(0)", data -> data.writeText(0));
        twins.full("writeText(40)", data -> data.writeText(40));
        Twins nearly = new Twins("1499 bytes", data -> Bytes.fill(data, 1499));
        nearly.full("write of a char", data -> data.write(2, -1));
        nearly.full("write of a long", data -> data.write(5, -1));
        nearly.full("raw of 2", data -> data.raw(-1, 2));
        nearly.full("writeFloat", data -> data.writeFloat(1, 0));
        nearly.full("writeDouble", data -> data.writeDouble(1, 0));
        nearly.full("writeText(0)", data -> data.writeText(0));
    }

    private static void fullInBlockModeChangesNothing() {
        Check.sentence("Exceptions", "neither does one that answers FULL: in block mode");
        Twins twins = new Twins("1400 bytes and 99 pending", data -> {
            Bytes.fill(data, 1400);
            data.blocks(true);
            Bytes.fill(data, 99);
        });
        for (int kind = 2; kind < 6; kind++) {
            int one = kind;
            twins.full("write of kind " + kind, data -> data.write(one, -1));
        }
        twins.full("writeFloat", data -> data.writeFloat(1, 0));
        twins.full("writeDouble", data -> data.writeDouble(1, 0));
        twins.full("writeText(0)", data -> data.writeText(0));
        twins.full("writeText(40)", data -> data.writeText(40));
    }

    private static void fullBesideABlockChangesNothing() {
        Check.sentence("Exceptions", "neither does one that answers FULL: where 1024 bytes would be PENDING");
        Twins twins = new Twins("474 bytes and 1023 pending", data -> {
            Bytes.fill(data, 474);
            data.blocks(true);
            Bytes.fill(data, 1023);
        });
        twins.full("write of an int", data -> data.write(4, -1));
        twins.full("write of a long", data -> data.write(5, -1));
        twins.full("writeFloat", data -> data.writeFloat(1, 0));
        twins.full("writeDouble", data -> data.writeDouble(1, 0));
        twins.full("writeText(1)", data -> data.writeText(1));
    }
}

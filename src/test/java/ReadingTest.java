import java.util.NoSuchElementException;

/** Promises 10, 14 to 16 and 19: read, readBlocks, skip, rewind and state. */
public final class ReadingTest {
    private static final Class<IllegalArgumentException> ARGUMENT = IllegalArgumentException.class;
    private static final Class<IllegalStateException> STATE = IllegalStateException.class;
    private static final Class<NoSuchElementException> ELEMENT = NoSuchElementException.class;

    public static void main(String[] args) {
        numbers();
        numberRefusals();
        shortData();
        blocks();
        endOfData();
        corrupt();
        cutHeaders();
        cutBlock();
        throwsChangeNothing();
        changesOfMode();
        skipped();
        skippedInBlocks();
        skipRefusals();
        rewound();
        stateRefusals();
        Check.finish();
    }

    private static void numbers() {
        int[] bytes = {0x80, 0xFF, 0xFE, 0x80, 1, 2, 3, 4};
        long[] due = {1, -128, 0x80FF, (short) 0x80FF, 0x80FFFE80, 0x80FFFE8001020304L};
        int[] sizes = {1, 1, 2, 2, 4, 8};
        for (int kind = 0; kind < 6; kind++) {
            WireData data = Bytes.log(bytes);
            Check.same("promise 10: kind " + kind, data.read(kind), due[kind]);
            Check.same("promise 10: PLACE", data.state(2), sizes[kind]);
        }
        Check.same("promise 10: boolean 0", Bytes.log(0).read(0), 0);
        Check.same("promise 10: boolean 1", Bytes.log(1).read(0), 1);
        Check.same("promise 10: byte above 0", Bytes.log(127).read(1), 127);
        Check.same("promise 10: char 65535", Bytes.log(255, 255).read(2), 65535);
        Check.same("promise 10: short -1", Bytes.log(255, 255).read(3), -1);
        Check.same("promise 10: short above 0", Bytes.log(127, 255).read(3), 32767);
        Check.same("promise 10: int -1", Bytes.log(255, 255, 255, 255).read(4), -1);
        Check.same("promise 10: long -1", Bytes.log(255, 255, 255, 255, 255, 255, 255, 255).read(5), -1);
    }

    private static void numberRefusals() {
        WireData data = new WireData();
        for (int kind : new int[] {-1, 6, Integer.MIN_VALUE, Integer.MAX_VALUE}) {
            Check.refused("promise 10: kind " + kind, ARGUMENT, () -> data.read(kind));
        }
        Check.refused("promise 10: the range goes before CORRUPT", ARGUMENT, () -> Bytes.blocks(1).read(6));
    }

    private static void shortData() {
        int[] sizes = {1, 1, 2, 2, 4, 8};
        for (int kind = 0; kind < 6; kind++) {
            int one = kind;
            WireData data = new WireData();
            for (int i = 0; i < sizes[kind]; i++) {
                Check.refused("promise 10: kind " + kind + " of " + i + " bytes", ELEMENT, () -> data.read(one));
                Check.same("promise 10: PLACE stays", data.state(2), 0);
                data.raw(1, 1);
            }
            Check.isTrue("promise 10: kind " + kind + " of enough bytes", data.read(kind) != 0);
        }
        WireData pending = new WireData();
        pending.blocks(true);
        pending.write(5, 1);
        Check.refused("promise 10: pending bytes are no data yet", ELEMENT, () -> pending.read(1));
    }

    private static void blocks() {
        WireData data = Bytes.blocks(0x79, 0x79, 0x77, 0, 0x7A, 0, 0, 0, 0, 0x77, 2, 1, 2, 0x79, 0x7A, 0, 0, 1, 0, 3);
        Check.states("block mode: nothing is passed at first", data, 20, 0, 0, 0, 0, 0);
        Check.same("block mode: byte", data.read(1), 1);
        Check.states("block mode: after a byte", data, 20, 0, 12, 1, 2, 0);
        Check.same("block mode: over blocks", data.read(3), 0x0203);
        Check.states("block mode: in a long block", data, 20, 0, 20, 255, 3, 0);
        Check.refused("block mode: data end in a block", ELEMENT, () -> data.read(1));
        Bytes.add(data, 0x44);
        Check.same("block mode: more is written", data.read(1), 0x44);
        Check.same("block mode: LEFT", data.state(3), 254);
        WireData last = Bytes.blocks(0x77, 1, 5, 0x79);
        Check.same("block mode: last byte of a block", last.read(1), 5);
        Check.states("block mode: nothing behind it is passed", last, 4, 0, 3, 0, 0, 0);
        WireData large = Bytes.blocks(0x77, 255, 1);
        large.read(0);
        Check.same("block mode: a short block of 255", large.state(3), 254);
        WireData huge = Bytes.blocks(0x7A, 0x7F, 255, 255, 255, 1);
        huge.read(0);
        Check.same("block mode: the largest block", huge.state(3), Integer.MAX_VALUE - 1);
    }

    private static void endOfData() {
        for (int mark = 0; mark < 256; mark++) {
            if (mark == 0x77 || mark == 0x79 || mark == 0x7A) {
                continue;
            }
            WireData data = Bytes.blocks(mark, 1, 1, 1, 1);
            boolean ordinary = mark >= 0x70 && mark <= 0x7E;
            Check.refused("block mode: mark " + mark, ordinary ? ELEMENT : STATE, () -> data.read(1));
            Check.states("block mode: mark " + mark, data, 5, 0, 0, 0, 0, 0);
        }
        Check.refused("block mode: no byte", ELEMENT, () -> Bytes.blocks().read(1));
        Check.refused("block mode: no byte behind a reset", ELEMENT, () -> Bytes.blocks(0x79).read(1));
        Check.refused("block mode: no byte behind an empty block", ELEMENT, () -> Bytes.blocks(0x77, 0).read(1));
    }

    private static void corrupt() {
        WireData data = Bytes.blocks(0x77, 1, 9, 0x6F);
        Check.refused("promise 10: CORRUPT behind a byte", STATE, () -> data.read(3));
        Check.same("promise 10: what lies before it", data.read(1), 9);
        Check.refused("promise 10: CORRUPT", STATE, () -> data.read(1));
        Check.refused("block mode: number below 0", STATE, () -> Bytes.blocks(0x7A, 0x80, 0, 0, 0, 1).read(1));
        Check.refused("block mode: number -1", STATE, () -> Bytes.blocks(0x7A, 255, 255, 255, 255, 1).read(1));
        Check.refused("block mode: the end goes before CORRUPT", ELEMENT, () -> Bytes.blocks(0x70, 0x6F).read(1));
    }

    private static void cutHeaders() {
        int[][] cut = {{0x77}, {0x7A}, {0x7A, 0}, {0x7A, 0, 0}, {0x7A, 0, 0, 0}, {0x79, 0x77}, {0x77, 0, 0x7A, 0}};
        for (int[] bytes : cut) {
            WireData data = Bytes.blocks(bytes);
            Check.refused("block mode: a header of " + bytes.length, STATE, () -> data.read(1));
            Check.refused("promise 15: a header of " + bytes.length, STATE, () -> data.skip(1));
            Check.states("block mode: a cut header", data, bytes.length, 0, 0, 0, 0, 0);
        }
        WireData mended = Bytes.blocks(0x7A, 0, 0, 0);
        Bytes.add(mended, 1, 8);
        Check.same("block mode: the rest of a header comes later", mended.read(1), 8);
    }

    private static void cutBlock() {
        WireData data = Bytes.blocks(0x79, 0x77, 3);
        Check.refused("block mode: a block without bytes", ELEMENT, () -> data.read(1));
        Check.states("block mode: a block without bytes", data, 3, 0, 0, 0, 0, 0);
        Check.same("promise 15: a block without bytes", data.skip(1), 0);
        Check.states("promise 15: its header is passed", data, 3, 0, 3, 3, 1, 0);
    }

    private static void throwsChangeNothing() {
        WireData data = Bytes.blocks(0x79, 0x77, 2, 1, 2, 0x79, 0x77, 1, 3, 0x79);
        Check.refused("promise 10: too few bytes", ELEMENT, () -> data.read(4));
        Check.states("promise 10: too few bytes", data, 10, 0, 0, 0, 0, 0);
        Check.same("promise 10: a byte", data.read(1), 1);
        Check.refused("promise 10: too few bytes", ELEMENT, () -> data.read(4));
        Check.states("promise 10: too few bytes", data, 10, 0, 4, 1, 1, 0);
        Check.same("promise 10: the rest", data.read(3), 0x0203);
        Check.states("promise 10: the rest", data, 10, 0, 9, 0, 2, 0);
    }

    private static void changesOfMode() {
        WireData data = Bytes.log(5, 0x77, 2, 1, 2, 6);
        Check.same("promise 14: off when off", data.readBlocks(false), 0);
        data.read(1);
        Check.same("promise 14: on", data.readBlocks(true), 1);
        Check.same("promise 14: in a block", data.read(1), 1);
        Check.same("promise 14: on when on", data.readBlocks(true), 4);
        Check.same("promise 14: LEFT stays", data.state(3), 1);
        Check.refused("promise 14: off in a block", STATE, () -> data.readBlocks(false));
        Check.states("promise 14: nothing is changed", data, 6, 0, 4, 1, 0, 0);
        Check.same("promise 14: still in block mode", data.read(1), 2);
        Check.same("promise 14: off", data.readBlocks(false), 5);
        Check.same("promise 14: plain again", data.read(1), 6);
        Check.same("promise 14: writing is not touched", data.raw(1, 1), 7);
    }

    private static void skipped() {
        WireData data = Bytes.log(0x79, 2, 3, 4);
        Check.same("promise 15: none", data.skip(0), 0);
        Check.same("promise 15: two", data.skip(2), 2);
        Check.same("promise 15: PLACE", data.state(2), 2);
        Check.same("promise 15: no RESET outside block mode", data.state(4), 0);
        Check.same("promise 15: more than there are", data.skip(1500), 2);
        Check.same("promise 15: at the end", data.skip(1), 0);
        Check.same("promise 15: PLACE at the end", data.state(2), 4);
    }

    private static void skippedInBlocks() {
        WireData data = Bytes.blocks(0x79, 0x77, 2, 1, 2, 0x79, 0x77, 1, 3, 0x77, 0, 0x79, 0x70);
        Check.same("promise 15: none", data.skip(0), 0);
        Check.states("promise 15: none looks for nothing", data, 13, 0, 0, 0, 0, 0);
        Check.same("promise 15: two", data.skip(2), 2);
        Check.states("promise 15: no further than needed", data, 13, 0, 5, 0, 1, 0);
        Check.same("promise 15: up to the end", data.skip(9), 1);
        Check.states("promise 15: resets and empty blocks stay passed", data, 13, 0, 12, 0, 3, 0);
        Check.same("promise 15: at the end", data.skip(1), 0);
        Check.states("promise 15: at the end", data, 13, 0, 12, 0, 3, 0);
        WireData bad = Bytes.blocks(0x79, 0x77, 2, 1, 2, 0x79, 0x6F);
        Check.refused("promise 15: CORRUPT on the way", STATE, () -> bad.skip(3));
        Check.states("promise 15: nothing is changed", bad, 7, 0, 0, 0, 0, 0);
        Check.same("promise 15: up to CORRUPT", bad.skip(2), 2);
        Check.states("promise 15: up to CORRUPT", bad, 7, 0, 5, 0, 1, 0);
    }

    private static void skipRefusals() {
        WireData data = Bytes.log(1, 2);
        for (int count : new int[] {-1, 1501, Integer.MIN_VALUE, Integer.MAX_VALUE}) {
            Check.refused("promise 15: count " + count, ARGUMENT, () -> data.skip(count));
        }
        Check.same("promise 15: PLACE stays", data.state(2), 0);
        Check.refused("promise 15: the range goes before CORRUPT", ARGUMENT, () -> Bytes.blocks(1).skip(1501));
    }

    private static void rewound() {
        WireData data = Bytes.blocks(0x79, 0x77, 3, 0x79, 2);
        data.read(1);
        data.blocks(true);
        data.write(1, 1);
        Check.same("promise 16: rewind", data.rewind(), 5);
        Check.states("promise 16: RESETS and PENDING stay", data, 5, 1, 0, 0, 1, 0);
        Check.same("promise 16: reading is not in block mode", data.read(1), 0x79);
        data.rewind();
        Check.same("promise 14: on again", data.readBlocks(true), 0);
        Check.same("promise 10: the same byte", data.read(1), 0x79);
        Check.same("promise 19: the RESET counts again", data.state(4), 2);
    }

    private static void stateRefusals() {
        WireData data = new WireData();
        for (int what : new int[] {-1, 6, Integer.MIN_VALUE, Integer.MAX_VALUE}) {
            Check.refused("promise 19: what " + what, ARGUMENT, () -> data.state(what));
        }
    }
}

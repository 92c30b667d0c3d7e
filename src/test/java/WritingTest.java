/** Promises 1 to 4, 9 and 17: a new object, raw, blocks, write, flush and byteAt. */
public final class WritingTest {
    private static final Class<IllegalArgumentException> ARGUMENT = IllegalArgumentException.class;
    private static final Class<IllegalStateException> STATE = IllegalStateException.class;

    public static void main(String[] args) {
        newObject();
        rawBytes();
        rawRefusals();
        numbers();
        numberRefusals();
        shortBlocks();
        longBlocks();
        fullBlocks();
        changesOfMode();
        fullLog();
        fullLogInBlockMode();
        greatestLog();
        byteAtEdges();
        Check.finish();
    }

    private static void newObject() {
        WireData data = new WireData();
        Check.states("promise 1", data, 0, 0, 0, 0, 0, 0);
        Check.same("promise 1: byteAt(0)", data.byteAt(0), -1);
        for (int i = 0; i < 40; i++) {
            Check.same("promise 1: code(" + i + ")", data.code(i), 0);
        }
        Check.same("promise 1: raw works, so writing is not in block mode", data.raw(0x41, 1), 1);
        Check.same("promise 1: reading is not in block mode", data.read(1), 0x41);
        Check.same("promise 1: objects share nothing", new WireData().state(0), 0);
    }

    private static void rawBytes() {
        WireData data = new WireData();
        Check.same("promise 2: raw of 1", data.raw(0x1FFL, 1), 1);
        Check.same("promise 2: raw of 3", data.raw(0x11223344L, 3), 4);
        Check.same("promise 2: raw of 8", data.raw(-2L, 8), 12);
        Check.logFrom("promise 2", data, 0, 0xFF, 0x22, 0x33, 0x44, 255, 255, 255, 255, 255, 255, 255, 254);
        for (int count = 1; count <= 8; count++) {
            WireData one = new WireData();
            Check.same("promise 2: raw of " + count, one.raw(0x8182838485868788L, count), count);
            for (int i = 0; i < count; i++) {
                Check.same("promise 2: byte " + i + " of " + count, one.byteAt(i), 0x88 - (count - 1 - i));
            }
        }
    }

    private static void rawRefusals() {
        WireData data = Bytes.log(1, 2);
        for (int count : new int[] {0, 9, -1, Integer.MIN_VALUE, Integer.MAX_VALUE}) {
            Check.refused("promise 2: raw of " + count, ARGUMENT, () -> data.raw(5, count));
        }
        data.blocks(true);
        Check.refused("promise 2: raw in block mode", STATE, () -> data.raw(5, 1));
        Check.refused("promise 2: the range is tested first", ARGUMENT, () -> data.raw(5, 9));
        Check.logFrom("promise 2: refusals change nothing", data, 0, 1, 2);
        data.blocks(false);
        Check.same("promise 2: raw after block mode", data.raw(3, 1), 3);
    }

    private static void numbers() {
        WireData data = new WireData();
        Check.same("promise 4: boolean", data.write(0, 7), 1);
        Check.same("promise 4: boolean 0", data.write(0, 0), 1);
        Check.same("promise 4: boolean whose lowest byte is 0", data.write(0, 1L << 40), 1);
        Check.same("promise 4: boolean below 0", data.write(0, Long.MIN_VALUE), 1);
        Check.logFrom("promise 4: booleans", data, 0, 1, 0, 1, 1);
        Check.same("promise 4: byte", data.write(1, -1), 1);
        Check.same("promise 4: byte of a large number", data.write(1, 0x1234), 1);
        Check.same("promise 4: char", data.write(2, 70000), 2);
        Check.same("promise 4: short", data.write(3, -2), 2);
        Check.logFrom("promise 4: small kinds", data, 4, 255, 0x34, 0x11, 0x70, 255, 254);
        Check.same("promise 4: int", data.write(4, 0x1122334455L), 4);
        Check.same("promise 4: long", data.write(5, 0x0102030405060708L), 8);
        Check.logFrom("promise 4: large kinds", data, 10, 0x22, 0x33, 0x44, 0x55, 1, 2, 3, 4, 5, 6, 7, 8);
        Check.same("promise 4: PENDING stays 0", data.state(1), 0);
    }

    private static void numberRefusals() {
        WireData data = new WireData();
        Bytes.fill(data, 1500);
        for (int kind : new int[] {-1, 6, Integer.MIN_VALUE, Integer.MAX_VALUE}) {
            Check.refused("promise 4: kind " + kind, ARGUMENT, () -> data.write(kind, 1));
        }
        Check.same("promise 4: length after refusals", data.state(0), 1500);
    }

    private static void shortBlocks() {
        WireData data = new WireData();
        Check.same("promise 3: blocks(true)", data.blocks(true), 0);
        Check.same("promise 9: flush of nothing", data.flush(), 0);
        Check.same("promise 4: char in block mode", data.write(2, 0x4142), 2);
        Check.states("promise 4: pending", data, 0, 2, 0, 0, 0, 0);
        Check.same("promise 17: pending bytes are not in the LOG", data.byteAt(0), -1);
        Check.same("promise 9: flush", data.flush(), 4);
        Check.logFrom("promise 9: a short block", data, 0, 0x77, 2, 0x41, 0x42);
        Check.same("promise 9: nothing is pending", data.state(1), 0);
        Check.same("promise 9: flush again", data.flush(), 4);
        Bytes.fill(data, 255);
        Check.same("promise 9: flush of 255", data.flush(), 4 + 2 + 255);
        Check.same("promise 9: mark of 255", data.byteAt(4), 0x77);
        Check.same("promise 9: number 255", data.byteAt(5), 255);
        Check.same("promise 9: flush leaves block mode on", data.write(1, 1), 1);
        Check.same("promise 9: pending after flush", data.state(1), 1);
    }

    private static void longBlocks() {
        WireData data = new WireData();
        data.blocks(true);
        Bytes.fill(data, 256);
        Check.same("promise 9: flush of 256", data.flush(), 5 + 256);
        int[] head = {0x7A, 0, 0, 1, 0, 1, 2, 3};
        for (int i = 0; i < head.length; i++) {
            Check.same("promise 9: byte " + i + " of a long block", data.byteAt(i), head[i]);
        }
        Check.same("promise 9: last byte of a long block", data.byteAt(260), 8);
    }

    private static void fullBlocks() {
        WireData data = new WireData();
        data.blocks(true);
        Bytes.fill(data, 1023);
        Check.states("promise 4: 1023 pending", data, 0, 1023);
        data.write(2, 0x6162);
        Check.states("promise 4: a block of 1024, one byte behind it", data, 1029, 1);
        Check.same("promise 4: third byte of its number", data.byteAt(3), 4);
        Check.same("promise 4: fourth byte of its number", data.byteAt(4), 0);
        Check.same("promise 4: last byte of the block", data.byteAt(1028), 0x61);
        data.flush();
        Check.logFrom("promise 4: the byte behind it", data, 1029, 0x77, 1, 0x62);
        WireData exact = new WireData();
        exact.blocks(true);
        Bytes.fill(exact, 1024);
        Check.states("promise 4: just 1024", exact, 1029, 0);
    }

    private static void changesOfMode() {
        WireData data = new WireData();
        Check.same("promise 3: no change", data.blocks(false), 0);
        data.write(1, 5);
        Check.same("promise 3: on", data.blocks(true), 1);
        data.write(1, 6);
        Check.same("promise 3: on again flushes nothing", data.blocks(true), 1);
        Check.same("promise 3: still pending", data.state(1), 1);
        Check.same("promise 3: off flushes", data.blocks(false), 4);
        data.write(1, 7);
        Check.same("promise 9: flush not in block mode", data.flush(), 5);
        Check.logFrom("promise 3", data, 0, 5, 0x77, 1, 6, 7);
        Check.same("promise 3: reading is not touched", data.read(3), 0x0577);
    }

    private static void fullLog() {
        WireData data = new WireData();
        Bytes.fill(data, 1496);
        Check.same("FULL: a long", data.write(5, 1), WireData.FULL);
        Check.same("FULL: raw of 5", data.raw(1, 5), WireData.FULL);
        Check.same("FULL: a double", data.writeDouble(1, 0), WireData.FULL);
        Check.same("FULL: a text of 3 and 2 bytes", fullText(data), WireData.FULL);
        Check.same("FULL: nothing is changed", data.state(0), 1496);
        Check.same("FULL: an int still fits", data.write(4, 1), 4);
        Check.same("FULL: a float", data.writeFloat(1, 0), WireData.FULL);
        Check.same("FULL: an empty text", data.writeText(0), WireData.FULL);
        Check.same("FULL: raw of 1", data.raw(1, 1), WireData.FULL);
        Check.same("FULL: a boolean", data.write(0, 1), WireData.FULL);
        Check.same("FULL: length", data.state(0), 1500);
        Check.same("FULL: byte behind", data.byteAt(1500), -1);
    }

    private static int fullText(WireData data) {
        data.put(0, 2048);
        return data.writeText(1);
    }

    private static void fullLogInBlockMode() {
        WireData data = new WireData();
        Bytes.fill(data, 1400);
        data.blocks(true);
        Bytes.fill(data, 99);
        Check.same("FULL: two bytes beside pending ones", data.write(2, 1), WireData.FULL);
        Check.states("FULL: pending stay", data, 1400, 99);
        Check.same("FULL: one byte fits", data.write(1, 1), 1);
        Check.same("FULL: headers are not counted before", data.flush(), 1502);
        Check.same("FULL: headers are counted then", data.write(1, 1), WireData.FULL);
        Check.same("FULL: flush changes nothing", data.flush(), 1502);
    }

    private static void greatestLog() {
        WireData data = new WireData();
        Bytes.fill(data, 469);
        data.blocks(true);
        Bytes.fill(data, 1023);
        Check.same("the call that fills the LOG", data.write(5, 0x1112131415161718L), 8);
        Check.states("a long block in the midst of it", data, 1498, 7);
        Check.same("nothing more", data.write(1, 1), WireData.FULL);
        Check.same("flush", data.flush(), 1507);
        Check.logFrom("its end", data, 1497, 0x11, 0x77, 7, 0x12, 0x13, 0x14, 0x15, 0x16, 0x17, 0x18);
        Check.same("skip all but seven", data.skip(1500), 1500);
        Check.same("two of the seven", data.read(3), 0x1213);
        Check.same("skip the rest", data.skip(1500), 5);
    }

    private static void byteAtEdges() {
        WireData data = Bytes.log(200, 0);
        Check.same("promise 17: byte above 127", data.byteAt(0), 200);
        Check.same("promise 17: byte 0", data.byteAt(1), 0);
        Check.same("promise 17: behind", data.byteAt(2), -1);
        for (int place : new int[] {-1, 1506, 1507, Integer.MIN_VALUE, Integer.MAX_VALUE}) {
            Check.same("promise 17: place " + place, data.byteAt(place), -1);
        }
    }
}

/** Boundary cases of writing, one test for each sentence of the document: Terms, promises 1 to 4, 9 and 17. */
public final class WritingEdgesTest {
    private static final Class<IllegalArgumentException> ARGUMENT = IllegalArgumentException.class;
    private static final Class<IllegalStateException> STATE = IllegalStateException.class;
    private static final int[] KIND_SIZES = {1, 1, 2, 2, 4, 8};

    public static void main(String[] args) {
        allIsAsSaidAtFirst();
        logIsEmptyAtFirst();
        bytesAreWithoutSign();
        notInBlockModeAtFirst();
        pendingBytesWait();
        block1024();
        shortAndLongHeaders();
        flushOfNothing();
        plainDataAreWrittenAtOnce();
        fullByTheLog();
        fullByPendingBytes();
        headersCountOnceTheyAreWritten();
        fullBesidesA1024Block();
        booleanNumbers();
        lowestBytesOfTheNumber();
        rawCounts();
        rawInBlockMode();
        rawWhenFull();
        rawAnswersTheLength();
        changeOfBlocksFlushes();
        sameBlocksChangesNothing();
        blocksOfAFullLog();
        kindsOutOfRange();
        writeAnswersHowManyBytes();
        flushAnswersTheLength();
        byteAtBothEnds();
        Check.finish();
    }

    private static WireData pending(int count) {
        WireData data = new WireData();
        data.blocks(true);
        Bytes.fill(data, count);
        return data;
    }

    private static void allIsAsSaidAtFirst() {
        Check.sentence("Promise 1", "All as said at first");
        WireData data = new WireData();
        Check.states("a new object", data, 0, 0, 0, 0, 0, 0);
        Check.same("byteAt(0)", data.byteAt(0), -1);
        for (int i = 0; i < 40; i++) {
            Check.same("code(" + i + ")", data.code(i), 0);
        }
        Bytes.fill(data, 20);
        data.put(0, 9);
        Check.states("an object made behind a used one", new WireData(), 0, 0, 0, 0, 0, 0);
        Check.same("its text buffer", new WireData().code(0), 0);
    }

    private static void logIsEmptyAtFirst() {
        Check.sentence("LOG", "at places 0, 1, ..; empty at first");
        WireData data = new WireData();
        Check.same("length", data.state(0), 0);
        Check.same("byteAt(0)", data.byteAt(0), -1);
        data.write(1, 5);
        data.write(1, 6);
        Check.logFrom("two bytes", data, 0, 5, 6);
        Check.same("byteAt(2)", data.byteAt(2), -1);
    }

    private static void bytesAreWithoutSign() {
        Check.sentence("LOG", "the bytes written so far, 0 .. 255 each");
        WireData data = new WireData();
        int[] edges = {0, 1, 127, 128, 254, 255};
        for (int value : edges) {
            data.write(1, value);
        }
        Check.logFrom("bytes", data, 0, edges);
        data.write(1, -1);
        data.write(1, -128);
        Check.logFrom("bytes of numbers below 0", data, 6, 255, 128);
        data.raw(-128, 1);
        Check.logFrom("raw byte of a number below 0", data, 8, 128);
    }

    private static void notInBlockModeAtFirst() {
        Check.sentence("WRITING", "in block mode or not (not at first)");
        WireData data = new WireData();
        data.write(1, 5);
        Check.states("a byte", data, 1, 0);
        Check.same("blocks(false) is no change", data.blocks(false), 1);
    }

    private static void pendingBytesWait() {
        Check.sentence("WRITING", "In block mode bytes of data are PENDING");
        WireData data = pending(1);
        Check.states("one byte", data, 0, 1);
        Check.same("byteAt(0)", data.byteAt(0), -1);
        Check.states("1023 bytes", pending(1023), 0, 1023);
    }

    private static void block1024() {
        Check.sentence("WRITING", "as soon as 1024 are, they become a block");
        WireData data = pending(1023);
        data.write(1, 0x33);
        Check.states("the byte that makes it 1024", data, 1029, 0);
        Check.same("its last byte", data.byteAt(1028), 0x33);
        data.write(1, 0x34);
        Check.states("a byte behind it", data, 1029, 1);
        WireData across = pending(1020);
        across.write(5, 0x1112131415161718L);
        Check.states("a long across the edge", across, 1029, 4);
        Check.same("last byte in the block", across.byteAt(1028), 0x14);
        across.flush();
        Check.logFrom("bytes behind the block", across, 1029, 0x77, 4, 0x15, 0x16, 0x17, 0x18);
        WireData text = pending(1023);
        text.put(0, 0x41);
        Check.same("a text across the edge", text.writeText(1), 3);
        Check.states("a text across the edge", text, 1029, 2);
        text.flush();
        Check.logFrom("its bytes behind the block", text, 1029, 0x77, 2, 1, 0x41);
    }

    private static void shortAndLongHeaders() {
        Check.sentence("WRITING", "if n is above 255 the bytes 7A and n as four bytes .. else 77 and n as one byte");
        header(1, 0x77, 1);
        header(254, 0x77, 254);
        header(255, 0x77, 255);
        header(256, 0x7A, 0, 0, 1, 0);
        header(257, 0x7A, 0, 0, 1, 1);
        header(1023, 0x7A, 0, 0, 3, 255);
        header(1024, 0x7A, 0, 0, 4, 0);
    }

    private static void header(int count, int... head) {
        WireData data = pending(count);
        Check.same("flush of " + count, data.flush(), head.length + count);
        for (int i = 0; i < head.length; i++) {
            Check.same("byte " + i + " of a block of " + count, data.byteAt(i), head[i]);
        }
        Check.same("first byte behind it", data.byteAt(head.length), count < 8 ? 9 : 1);
        Check.same("last byte", data.byteAt(head.length + count - 1), count % 8 == 0 ? 8 : 9);
    }

    private static void flushOfNothing() {
        Check.sentence("FLUSH", "if bytes are PENDING they become a block");
        WireData data = new WireData();
        Check.same("flush of a new object", data.flush(), 0);
        data.blocks(true);
        Check.same("flush in block mode", data.flush(), 0);
        Check.same("blocks(false) with nothing pending", data.blocks(false), 0);
        WireData block = pending(1024);
        Check.same("flush behind a block of 1024", block.flush(), 1029);
        WireData twice = pending(3);
        Check.same("flush", twice.flush(), 5);
        Check.same("flush again", twice.flush(), 5);
        Check.states("flush again", twice, 5, 0);
    }

    private static void plainDataAreWrittenAtOnce() {
        Check.sentence("WRITING", "Not in block mode bytes of data are put at the end of the LOG at once");
        WireData data = pending(2);
        data.blocks(false);
        data.write(2, 0x4142);
        Check.states("a char", data, 6, 0);
        Check.logFrom("a char", data, 0, 0x77, 2, 9, 9, 0x41, 0x42);
        WireData many = new WireData();
        Bytes.fill(many, 1032);
        Check.states("more than 1024 bytes", many, 1032, 0);
    }

    private interface Writing {
        int on(WireData data);
    }

    private static void fullByTheLog() {
        Check.sentence("FULL", "if the LOG's length, the PENDING bytes and n together are more than 1500");
        for (int count = 1; count <= 8; count++) {
            int size = count;
            atTheEdge("raw of " + count, size, 1500, 0, data -> data.raw(-1, size));
        }
        everyWriting(0);
    }

    private static void fullByPendingBytes() {
        Check.sentence("FULL", "the PENDING bytes and n together, in block mode");
        everyWriting(600);
    }

    /** Each writing call, with so many bytes pending and none more than fits. */
    private static void everyWriting(int pending) {
        for (int kind = 0; kind < 6; kind++) {
            int one = kind;
            int size = KIND_SIZES[kind];
            atTheEdge("write of kind " + kind, size, size, pending, data -> data.write(one, -1));
        }
        atTheEdge("writeFloat", 4, 4, pending, data -> data.writeFloat(1.5f, 0));
        atTheEdge("writeDouble", 8, 8, pending, data -> data.writeDouble(1.5, 0));
        atTheEdge("writeText(0)", 2, 2, pending, data -> data.writeText(0));
        atTheEdge("writeText(1)", 4, 4, pending, data -> data.writeText(1));
        atTheEdge("writeText(40)", 82, 82, pending, data -> data.writeText(40));
    }

    private static void atTheEdge(String what, int size, int due, int pending, Writing call) {
        WireData fits = filled(1500 - size, pending);
        Check.same(what + " that fits just so", call.on(fits), due);
        Check.states(what + " that fits just so", fits, pending == 0 ? 1500 : 1500 - size - pending,
                pending == 0 ? 0 : pending + size);
        WireData full = filled(1501 - size, pending);
        Check.same(what + " of a byte too much", call.on(full), WireData.FULL);
        Check.states(what + " of a byte too much", full, 1501 - size - pending, pending);
    }

    private static WireData filled(int all, int pending) {
        WireData data = new WireData();
        Bytes.fill(data, all - pending);
        if (pending > 0) {
            data.blocks(true);
            Bytes.fill(data, pending);
        }
        return data;
    }

    private static void headersCountOnceTheyAreWritten() {
        Check.sentence("FULL", "the LOG's length, with the bytes of the headers in it");
        WireData data = filled(1499, 99);
        Check.same("the last byte", data.write(1, 1), 1);
        Check.same("a header more is written", data.flush(), 1502);
        Check.same("a byte behind it", data.write(1, 1), WireData.FULL);
        Check.same("an empty text behind it", data.writeText(0), WireData.FULL);
        WireData near = filled(1497, 97);
        Check.same("a header of two", near.flush(), 1499);
        Check.same("two bytes", near.write(3, 1), WireData.FULL);
        Check.same("one byte", near.write(1, 1), 1);
        Check.same("none", near.write(0, 1), WireData.FULL);
        WireData far = filled(1494, 300);
        Check.same("a header of five", far.flush(), 1499);
        Check.same("two bytes", far.write(3, 1), WireData.FULL);
        Check.same("one byte", far.write(1, 1), 1);
    }

    private static void fullBesidesA1024Block() {
        Check.sentence("FULL", "together are more than 1500, where 1024 bytes become a block in the call");
        WireData data = filled(1492, 1020);
        Check.same("the call that fills the LOG", data.write(5, 0x1112131415161718L), 8);
        Check.states("its block, and four bytes", data, 472 + 1029, 4);
        Check.same("a byte more", data.write(1, 1), WireData.FULL);
        Check.same("flush", data.flush(), 1507);
        Check.logFrom("the end of the longest LOG", data, 1500, 0x14, 0x77, 4, 0x15, 0x16, 0x17, 0x18);
        WireData full = filled(1493, 1020);
        Check.same("a call that would make a block", full.write(5, 1), WireData.FULL);
        Check.states("a call that would make a block", full, 473, 1020);
    }

    private static void booleanNumbers() {
        Check.sentence("NUMBERS", "1 for a number that is not 0, else 0");
        WireData data = new WireData();
        for (long number : new long[] {0, 1, 2, -1, 256, 1L << 32, Long.MIN_VALUE, Long.MAX_VALUE}) {
            data.write(0, number);
        }
        Check.logFrom("booleans", data, 0, 0, 1, 1, 1, 1, 1, 1, 1);
    }

    private static void lowestBytesOfTheNumber() {
        Check.sentence("NUMBERS", "the lowest bytes of the number, the highest of them first");
        for (int kind = 1; kind < 6; kind++) {
            int size = KIND_SIZES[kind];
            WireData data = new WireData();
            data.write(kind, 0x8182838485868788L);
            Check.same("length of kind " + kind, data.state(0), size);
            for (int i = 0; i < size; i++) {
                Check.same("byte " + i + " of kind " + kind, data.byteAt(i), 0x88 - (size - 1 - i));
            }
        }
        WireData wrapped = new WireData();
        wrapped.write(1, 256);
        wrapped.write(2, 65536 + 1);
        wrapped.write(3, 32768);
        wrapped.write(4, 1L << 31);
        Check.logFrom("numbers too large for their kind", wrapped, 0, 0, 0, 1, 0x80, 0, 0x80, 0, 0, 0);
    }

    private static void rawCounts() {
        Check.sentence("Promise 2", "the count 1 .. 8 lowest bytes of the number, highest first");
        for (int count = 1; count <= 8; count++) {
            WireData data = new WireData();
            Check.same("raw of " + count, data.raw(0xF1F2F3F4F5F6F7F8L, count), count);
            Check.same("length after raw of " + count, data.state(0), count);
            for (int i = 0; i < count; i++) {
                Check.same("byte " + i + " of " + count, data.byteAt(i), 0xF8 - (count - 1 - i));
            }
        }
        WireData data = Bytes.log(7);
        for (int count : new int[] {0, 9, -1, -8, 256 + 1, Integer.MIN_VALUE, Integer.MAX_VALUE}) {
            Check.refused("raw of " + count, ARGUMENT, () -> data.raw(5, count));
        }
        Check.logFrom("refused calls", data, 0, 7);
    }

    private static void rawInBlockMode() {
        Check.sentence("Promise 2", "WRITING is in block mode: IllegalStateException");
        WireData data = pending(0);
        Check.refused("raw of 1", STATE, () -> data.raw(5, 1));
        Check.refused("raw of 8", STATE, () -> data.raw(5, 8));
        data.write(1, 5);
        Check.refused("raw beside a pending byte", STATE, () -> data.raw(5, 1));
        Check.states("refused calls", data, 0, 1);
        WireData full = filled(1500, 100);
        Check.refused("raw in block mode, with no room", STATE, () -> full.raw(5, 1));
        data.blocks(false);
        Check.same("raw when no longer in block mode", data.raw(5, 1), 4);
        WireData reading = new WireData();
        reading.readBlocks(true);
        Check.same("raw while READING is in block mode", reading.raw(5, 1), 1);
    }

    private static void rawWhenFull() {
        Check.sentence("Promise 2", "FULL as for data");
        WireData data = filled(1495, 0);
        for (int count = 6; count <= 8; count++) {
            Check.same("raw of " + count, data.raw(5, count), WireData.FULL);
        }
        Check.same("length", data.state(0), 1495);
        Check.same("raw of 5", data.raw(0x15, 5), 1500);
        Check.same("raw of 1", data.raw(5, 1), WireData.FULL);
        Check.logFrom("the end", data, 1495, 0, 0, 0, 0, 0x15);
    }

    private static void rawAnswersTheLength() {
        Check.sentence("Promise 2", "Answers the LOG's length");
        WireData data = new WireData();
        Check.same("raw of 3", data.raw(1, 3), 3);
        Check.same("raw of 1", data.raw(1, 1), 4);
        Bytes.fill(data, 1492);
        Check.same("raw of 4", data.raw(1, 4), 1500);
    }

    private static void changeOfBlocksFlushes() {
        Check.sentence("Promise 3", "if that is a change, FLUSH before it. Answers the LOG's length");
        WireData data = Bytes.log(5);
        Check.same("on", data.blocks(true), 1);
        data.write(2, 0x4142);
        Check.same("off", data.blocks(false), 5);
        Check.states("off", data, 5, 0);
        data.write(1, 6);
        Check.logFrom("a block, and a plain byte", data, 0, 5, 0x77, 2, 0x41, 0x42, 6);
        Check.same("on again", data.blocks(true), 6);
        data.write(1, 7);
        Check.states("on again", data, 6, 1);
    }

    private static void sameBlocksChangesNothing() {
        Check.sentence("Promise 3", "if that is a change");
        WireData data = pending(3);
        Check.same("on when on", data.blocks(true), 0);
        Check.states("on when on", data, 0, 3);
        data.write(1, 4);
        Check.same("one block of all", data.flush(), 6);
        data.blocks(false);
        Check.same("off when off", data.blocks(false), 6);
        data.write(1, 4);
        Check.states("off when off", data, 7, 0);
    }

    private static void blocksOfAFullLog() {
        Check.sentence("Promise 3", "FLUSH before it, also when no data could be written");
        WireData data = filled(1500, 256);
        Check.same("off", data.blocks(false), 1505);
        Check.same("mark", data.byteAt(1244), 0x7A);
        Check.same("last byte", data.byteAt(1504), 8);
        Check.same("on", data.blocks(true), 1505);
    }

    private static void kindsOutOfRange() {
        Check.sentence("Promise 4", "Writes a number of kind 0 .. 5");
        WireData data = new WireData();
        for (int kind : new int[] {-1, 6, Integer.MIN_VALUE, Integer.MAX_VALUE}) {
            Check.refused("kind " + kind, ARGUMENT, () -> data.write(kind, 1));
        }
        Check.same("length", data.state(0), 0);
    }

    private static void writeAnswersHowManyBytes() {
        Check.sentence("Promise 4", "Answers how many bytes");
        WireData plain = Bytes.log(1, 2, 3);
        WireData blocks = pending(0);
        int all = 0;
        for (int kind = 0; kind < 6; kind++) {
            all += KIND_SIZES[kind];
            Check.same("kind " + kind, plain.write(kind, 0), KIND_SIZES[kind]);
            Check.same("kind " + kind + " in block mode", blocks.write(kind, 0), KIND_SIZES[kind]);
            Check.states("kind " + kind, plain, 3 + all, 0);
            Check.states("kind " + kind + " in block mode", blocks, 0, all);
        }
        WireData across = pending(1023);
        Check.same("a long across 1024", across.write(5, 0), 8);
    }

    private static void flushAnswersTheLength() {
        Check.sentence("Promise 9", "FLUSH. Answers the LOG's length");
        WireData data = Bytes.log(5, 6);
        Check.same("not in block mode", data.flush(), 2);
        data.blocks(true);
        data.write(1, 7);
        Check.same("a byte", data.flush(), 5);
        Check.states("a byte", data, 5, 0);
        data.write(1, 8);
        Check.states("still in block mode", data, 5, 1);
        WireData full = filled(1500, 255);
        Check.same("a full LOG", full.flush(), 1502);
    }

    private static void byteAtBothEnds() {
        Check.sentence("Promise 17", "Byte of the LOG at a place, -1 if there is none");
        WireData data = Bytes.log(0x81, 0x82, 0x83);
        Check.same("the first", data.byteAt(0), 0x81);
        Check.same("the last", data.byteAt(2), 0x83);
        for (int place : new int[] {-1, 3, 1499, 1500, 1507, 1508, Integer.MIN_VALUE, Integer.MAX_VALUE}) {
            Check.same("place " + place, data.byteAt(place), -1);
        }
        data.blocks(true);
        data.write(1, 1);
        Check.same("a pending byte", data.byteAt(3), -1);
        Check.same("in the empty LOG", new WireData().byteAt(0), -1);
        WireData full = filled(1500, 0);
        Check.same("the last of a full LOG", full.byteAt(1499), 9);
        Check.same("behind a full LOG", full.byteAt(1500), -1);
    }
}

import java.util.NoSuchElementException;

/**
 * The data layer of a serial stream: numbers, floating values and texts are written to a log of
 * bytes, plainly or in blocks, and bytes from anywhere are read back with care.
 */
public final class WireData {
    public static final int FULL = -2;

    private static final int DATA_LIMIT = 1500;
    private static final int BLOCK_LIMIT = 1024;
    private static final int SHORT_BLOCK_LIMIT = 255;
    private static final int TEXT_LIMIT = 40;
    private static final int HIGHEST_CODE = 65535;
    private static final int FLOAT_SCALE_LIMIT = 300;
    private static final int DOUBLE_SCALE_LIMIT = 2200;

    // The limit of data leaves headers out: the call that fills it may make a long block (5 bytes
    // more), and what that call leaves pending makes a short one (2 more); then nothing is let in.
    private static final int LOG_ROOM = DATA_LIMIT + 5 + 2;

    // No code takes more than three bytes, so a longer text has too many codes or is malformed.
    private static final int TEXT_ROOM = 3 * TEXT_LIMIT;

    private static final int SHORT_BLOCK = 0x77;
    private static final int RESET = 0x79;
    private static final int LONG_BLOCK = 0x7A;
    private static final int LOWEST_MARK = 0x70;
    private static final int HIGHEST_MARK = 0x7E;

    private static final int KIND_BOOLEAN = 0;
    private static final int KIND_BYTE = 1;
    private static final int KIND_SHORT = 3;
    private static final int KIND_INT = 4;
    private static final int[] KIND_SIZES = {1, 1, 2, 2, 4, 8};

    // What looking for a byte of data can come to; the last two stand beside the bytes 0 .. 255.
    private static final int FOUND = 0;
    private static final int END = -1;
    private static final int CORRUPT = -2;

    private static final int MALFORMED = -1;

    private final Output output;
    private final Cursor reading;
    // Reading calls move this copy and keep it only when they succeed, so that a throw changes nothing.
    private final Cursor trial;
    private final TextBuffer text;
    private boolean metNoNumber;

    public WireData() {
        output = new Output();
        reading = new Cursor();
        trial = new Cursor();
        text = new TextBuffer();
        metNoNumber = false;
    }

    public int raw(long bytes, int count) throws IllegalStateException, IllegalArgumentException {
        if (count < 1 || count > 8) {
            throw new IllegalArgumentException("count is not 1 .. 8");
        }
        if (output.blockMode) {
            throw new IllegalStateException("writing is in block mode");
        }
        return writeNumber(bytes, count) == FULL ? FULL : output.length;
    }

    public int blocks(boolean on) {
        if (on != output.blockMode) {
            output.makeBlock();
            output.blockMode = on;
        }
        return output.length;
    }

    public int write(int kind, long number) throws IllegalArgumentException {
        int size = sizeOfKind(kind);
        if (kind == KIND_BOOLEAN) {
            return writeNumber(number != 0 ? 1 : 0, size);
        }
        return writeNumber(number, size);
    }

    public int writeFloat(float value, int scale) throws IllegalArgumentException {
        if (scale < -FLOAT_SCALE_LIMIT || scale > FLOAT_SCALE_LIMIT) {
            throw new IllegalArgumentException("scale is not -300 .. 300");
        }
        // Neither arithmetic nor a cast may answer NaN, so what is no number becomes bits at once.
        long bits = value != value ? Layout.FLOAT.noNumber() : Layout.FLOAT.bitsOf(scaledFloat(value, scale));
        return writeNumber(bits, Layout.FLOAT.size);
    }

    public int writeDouble(double value, int scale) throws IllegalArgumentException {
        if (scale < -DOUBLE_SCALE_LIMIT || scale > DOUBLE_SCALE_LIMIT) {
            throw new IllegalArgumentException("scale is not -2200 .. 2200");
        }
        long bits = value != value ? Layout.DOUBLE.noNumber() : Layout.DOUBLE.bitsOf(scaledDouble(value, scale));
        return writeNumber(bits, Layout.DOUBLE.size);
    }

    public int put(int place, int code) throws IllegalArgumentException {
        requireTextPlace(place);
        if (code < 0 || code > HIGHEST_CODE) {
            throw new IllegalArgumentException("code is not 0 .. 65535");
        }
        text.codes[place] = code;
        return code;
    }

    public int writeText(int length) throws IllegalArgumentException {
        if (length < 0 || length > TEXT_LIMIT) {
            throw new IllegalArgumentException("length is not 0 .. 40");
        }
        int size = text.sizeOf(length);
        if (!output.hasRoomFor(2 + size)) {
            return FULL;
        }
        output.addNumber(size, 2);
        text.encode(length, output);
        return 2 + size;
    }

    public int flush() {
        output.makeBlock();
        return output.length;
    }

    public long read(int kind) throws IllegalStateException, IllegalArgumentException, NoSuchElementException {
        long bytes = readNumber(sizeOfKind(kind));
        switch (kind) {
            case KIND_BOOLEAN:
                return bytes != 0 ? 1 : 0;
            case KIND_BYTE:
                return (byte) bytes;
            case KIND_SHORT:
                return (short) bytes;
            case KIND_INT:
                return (int) bytes;
            default:
                return bytes;
        }
    }

    public float readFloat() throws IllegalStateException, NoSuchElementException {
        // Every float is a double too, so the cast rounds nothing.
        return (float) valueRead(Layout.FLOAT, readNumber(Layout.FLOAT.size));
    }

    public double readDouble() throws IllegalStateException, NoSuchElementException {
        return valueRead(Layout.DOUBLE, readNumber(Layout.DOUBLE.size));
    }

    public int readText() throws IllegalStateException, IllegalArgumentException, NoSuchElementException {
        trial.copyFrom(reading);
        int size = takeByte() << 8 | takeByte();
        for (int i = 0; i < size; i++) {
            text.keepByte(i, takeByte());
        }
        int count = text.decode(size);
        if (count == MALFORMED) {
            throw new IllegalArgumentException("the text is malformed");
        }
        text.keepDecoded(count);
        reading.copyFrom(trial);
        return count;
    }

    public int readBlocks(boolean on) throws IllegalStateException {
        if (on != reading.blockMode) {
            if (reading.left != 0) {
                throw new IllegalStateException("the present block is not read to its end");
            }
            reading.blockMode = on;
        }
        return reading.place;
    }

    public int skip(int count) throws IllegalStateException, IllegalArgumentException {
        if (count < 0 || count > DATA_LIMIT) {
            throw new IllegalArgumentException("count is not 0 .. 1500");
        }
        trial.copyFrom(reading);
        int passed = 0;
        for (; passed < count; passed++) {
            int next = trial.next(output);
            if (next == CORRUPT) {
                throw new IllegalStateException("the blocks are corrupt");
            }
            if (next == END) {
                break;
            }
        }
        reading.copyFrom(trial);
        return passed;
    }

    public int rewind() {
        reading.place = 0;
        reading.left = 0;
        reading.blockMode = false;
        return output.length;
    }

    public int byteAt(int place) {
        return output.logged(place);
    }

    public int code(int place) throws IllegalArgumentException {
        requireTextPlace(place);
        return text.codes[place];
    }

    public int state(int what) throws IllegalArgumentException {
        switch (what) {
            case 0:
                return output.length;
            case 1:
                return output.pendingCount;
            case 2:
                return reading.place;
            case 3:
                return reading.left;
            case 4:
                return reading.resets;
            case 5:
                return metNoNumber ? 1 : 0;
            default:
                throw new IllegalArgumentException("what is not 0 .. 5");
        }
    }

    private static int sizeOfKind(int kind) {
        if (kind < 0 || kind >= KIND_SIZES.length) {
            throw new IllegalArgumentException("kind is not 0 .. 5");
        }
        return KIND_SIZES[kind];
    }

    private static void requireTextPlace(int place) {
        if (place < 0 || place >= TEXT_LIMIT) {
            throw new IllegalArgumentException("place is not 0 .. 39");
        }
    }

    private int writeNumber(long number, int size) {
        if (!output.hasRoomFor(size)) {
            return FULL;
        }
        output.addNumber(number, size);
        return size;
    }

    private static float scaledFloat(float value, int scale) {
        // Not by one power of two: below the normal range each step rounds by itself.
        float factor = scale > 0 ? 2.0f : 0.5f;
        int steps = Math.abs(scale);
        float result = value;
        for (int i = 0; i < steps; i++) {
            result = result * factor;
        }
        return result;
    }

    private static double scaledDouble(double value, int scale) {
        // Step by step, for the reason told in scaledFloat.
        double factor = scale > 0 ? 2.0 : 0.5;
        int steps = Math.abs(scale);
        double result = value;
        for (int i = 0; i < steps; i++) {
            result = result * factor;
        }
        return result;
    }

    private long readNumber(int size) {
        trial.copyFrom(reading);
        long number = 0;
        for (int i = 0; i < size; i++) {
            number = number << 8 | takeByte();
        }
        reading.copyFrom(trial);
        return number;
    }

    /** The value of bits that were read; keeps whether they are no number. */
    private double valueRead(Layout layout, long bits) {
        metNoNumber = layout.isNoNumber(bits);
        return metNoNumber ? 0.0 : layout.valueIn(bits);
    }

    private int takeByte() {
        int next = trial.next(output);
        if (next == CORRUPT) {
            throw new IllegalStateException("the blocks are corrupt");
        }
        if (next == END) {
            throw new NoSuchElementException("the data end");
        }
        return next;
    }

    /** The log, and in block mode the bytes that wait to become a block of it. */
    private static final class Output {
        private final int[] log = new int[LOG_ROOM];
        private int length = 0;
        private final int[] pending = new int[BLOCK_LIMIT];
        private int pendingCount = 0;
        private boolean blockMode = false;

        private boolean hasRoomFor(int count) {
            return length + pendingCount + count <= DATA_LIMIT;
        }

        private int logged(int place) {
            return place >= 0 && place < length ? log[place] : -1;
        }

        private void addNumber(long number, int size) {
            for (int shift = 8 * (size - 1); shift >= 0; shift -= 8) {
                addByte((int) (number >>> shift) & 0xFF);
            }
        }

        private void addByte(int value) {
            if (!blockMode) {
                addToLog(value);
                return;
            }
            if (pendingCount < BLOCK_LIMIT) {
                pending[pendingCount] = value;
                pendingCount++;
            }
            if (pendingCount >= BLOCK_LIMIT) {
                makeBlock();
            }
        }

        private void makeBlock() {
            if (pendingCount == 0) {
                return;
            }
            addHeader(pendingCount);
            for (int i = 0; i < pendingCount; i++) {
                addToLog(pending[i]);
            }
            pendingCount = 0;
        }

        private void addHeader(int count) {
            if (count <= SHORT_BLOCK_LIMIT) {
                addToLog(SHORT_BLOCK);
                addToLog(count);
                return;
            }
            addToLog(LONG_BLOCK);
            for (int shift = 24; shift >= 0; shift -= 8) {
                addToLog(count >>> shift & 0xFF);
            }
        }

        private void addToLog(int value) {
            if (length < LOG_ROOM) {
                log[length] = value;
                length++;
            }
        }
    }

    /** Where reading goes on, and what it has met so far. */
    private static final class Cursor {
        private int place = 0;
        private int left = 0;
        private int resets = 0;
        private boolean blockMode = false;

        private void copyFrom(Cursor other) {
            place = other.place;
            left = other.left;
            resets = other.resets;
            blockMode = other.blockMode;
        }

        /** The next byte of data, END or CORRUPT; resets and headers before it are passed in any case. */
        private int next(Output source) {
            if (blockMode) {
                int found = findBlock(source);
                if (found != FOUND) {
                    return found;
                }
            }
            if (place >= source.length) {
                return END;
            }
            if (blockMode) {
                left--;
            }
            place++;
            return source.logged(place - 1);
        }

        /** FOUND if bytes of a block are left, perhaps after headers and resets; else END or CORRUPT. */
        private int findBlock(Output source) {
            // Every turn passes a byte of the log at least, or ends the loop.
            for (int turns = source.length - place; turns > 0 && left == 0; turns--) {
                int mark = source.logged(place);
                if (mark == RESET) {
                    place++;
                    resets++;
                } else if (mark == SHORT_BLOCK || mark == LONG_BLOCK) {
                    if (!openBlock(source, mark == SHORT_BLOCK ? 1 : 4)) {
                        return CORRUPT;
                    }
                } else {
                    return endAt(mark);
                }
            }
            return left == 0 ? END : FOUND;
        }

        /** Passes a header whose number has that many bytes; false if the header is corrupt. */
        private boolean openBlock(Output source, int size) {
            if (source.length - place - 1 < size) {
                return false;
            }
            int count = 0;
            for (int i = 1; i <= size; i++) {
                count = count << 8 | source.logged(place + i);
            }
            if (count < 0) {
                return false;
            }
            place += 1 + size;
            left = count;
            return true;
        }

        private static int endAt(int mark) {
            // No byte at all is an ordinary end: more bytes may still be written.
            boolean ordinary = mark == -1 || mark >= LOWEST_MARK && mark <= HIGHEST_MARK;
            return ordinary ? END : CORRUPT;
        }
    }

    /** The codes of a text, and their form in bytes. */
    private static final class TextBuffer {
        private final int[] codes = new int[TEXT_LIMIT];
        private final int[] bytes = new int[TEXT_ROOM];
        // Apart from the codes, since a text may turn out to be malformed only at its end.
        private final int[] decoded = new int[TEXT_LIMIT];

        private int sizeOf(int length) {
            int size = 0;
            for (int i = 0; i < length; i++) {
                size += sizeOfCode(codes[i]);
            }
            return size;
        }

        private static int sizeOfCode(int value) {
            if (value >= 1 && value <= 127) {
                return 1;
            }
            return value <= 2047 ? 2 : 3;
        }

        private void encode(int length, Output target) {
            for (int i = 0; i < length; i++) {
                encodeCode(codes[i], target);
            }
        }

        private static void encodeCode(int value, Output target) {
            int size = sizeOfCode(value);
            if (size == 1) {
                target.addByte(value);
                return;
            }
            if (size == 2) {
                target.addByte(0xC0 + value / 64);
            } else {
                target.addByte(0xE0 + value / 4096);
                target.addByte(0x80 + value / 64 % 64);
            }
            target.addByte(0x80 + value % 64);
        }

        private void keepByte(int place, int value) {
            if (place >= 0 && place < TEXT_ROOM) {
                bytes[place] = value;
            }
        }

        /** Decodes the first bytes; answers how many codes they are, or MALFORMED. */
        private int decode(int size) {
            if (size > TEXT_ROOM) {
                return MALFORMED;
            }
            int count = 0;
            int place = 0;
            while (place < size) {
                int codeSize = sizeBehind(bytes[place]);
                if (codeSize == 0 || codeSize > size - place || count >= TEXT_LIMIT) {
                    return MALFORMED;
                }
                int value = decodeCode(place, codeSize);
                if (value == MALFORMED) {
                    return MALFORMED;
                }
                decoded[count] = value;
                count++;
                place += codeSize;
            }
            return count;
        }

        /** How many bytes a code has that begins with this one; 0 if none does. */
        private static int sizeBehind(int first) {
            if (first < 0x80) {
                return 1;
            }
            if (first < 0xC0 || first > 0xEF) {
                return 0;
            }
            return first < 0xE0 ? 2 : 3;
        }

        private int decodeCode(int place, int size) {
            int value = bytes[place];
            if (size > 1) {
                value &= size == 2 ? 0x1F : 0x0F;
            }
            for (int i = 1; i < size; i++) {
                int part = bytes[place + i];
                if (part < 0x80 || part > 0xBF) {
                    return MALFORMED;
                }
                value = value * 64 + part % 64;
            }
            return value;
        }

        private void keepDecoded(int count) {
            System.arraycopy(decoded, 0, codes, 0, count);
        }
    }

    /** How the bits of a floating value lie; a float is handled as the double that equals it. */
    private enum Layout {
        FLOAT(4, 127, 23),
        DOUBLE(8, 1023, 52);

        private final int size;
        private final int bias;
        private final int width;

        Layout(int size, int bias, int width) {
            this.size = size;
            this.bias = bias;
            this.width = width;
        }

        private int allOnes() {
            return 2 * bias + 1;
        }

        private long one() {
            return 1L << width;
        }

        private long exponentIn(long bits) {
            return bits >>> width & allOnes();
        }

        private long fractionIn(long bits) {
            return bits & one() - 1;
        }

        private boolean isNoNumber(long bits) {
            return exponentIn(bits) == allOnes() && fractionIn(bits) != 0;
        }

        /** The document names no bits to write for it: those that Java itself gives. */
        private long noNumber() {
            return allOnes() * one() + one() / 2;
        }

        private long bitsOf(double value) {
            if (value == 0) {
                return 0;
            }
            if (value < 0) {
                return 1L << 8 * size - 1 | magnitudeBits(-value);
            }
            return magnitudeBits(value);
        }

        private long magnitudeBits(double magnitude) {
            if (magnitude > 1.7976931348623157E308) {
                return allOnes() * one();
            }
            double rest = magnitude;
            int exponent = bias;
            for (; rest >= 2 && exponent < allOnes() - 1; exponent++) {
                rest = rest * 0.5;
            }
            for (; rest < 1 && exponent > 1; exponent--) {
                rest = rest * 2;
            }
            if (rest < 1) {
                return (long) (rest * one());
            }
            return exponent * one() + (long) ((rest - 1) * one());
        }

        private double valueIn(long bits) {
            double magnitude = magnitudeOf(exponentIn(bits), fractionIn(bits));
            boolean negative = (bits >>> 8 * size - 1 & 1) != 0;
            return negative ? -magnitude : magnitude;
        }

        private double magnitudeOf(long exponent, long fraction) {
            if (exponent == allOnes()) {
                return 1.7976931348623157E308 * 2;
            }
            // Whole numbers below 2^53, halved or doubled towards a value that the type holds, stay exact.
            if (exponent == 0) {
                return scaledDouble(fraction, 1 - bias - width);
            }
            return scaledDouble(one() + fraction, (int) exponent - bias - width);
        }
    }
}

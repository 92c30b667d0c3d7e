import java.io.ByteArrayInputStream;
import java.io.ByteArrayOutputStream;
import java.io.DataInputStream;
import java.io.DataOutputStream;
import java.io.IOException;
import java.io.UTFDataFormatException;
import java.nio.ByteBuffer;
import java.util.Arrays;
import java.util.NoSuchElementException;

/**
 * The document a second time, as far from the program's way as may be: the Java library writes and
 * reads the numbers and the texts, and a call that throws is undone by going back to a saved state.
 */
final class Model {
    byte[] log = new byte[0];
    byte[] pending = new byte[0];
    boolean writingBlocks = false;
    char[] codes = new char[40];
    int[] position = {0, 0, 0, 0};
    int noNumber = 0;

    private static final int PLACE = 0;
    private static final int LEFT = 1;
    private static final int RESETS = 2;
    private static final int BLOCKS = 3;

    private static final int[] SIZES = {1, 1, 2, 2, 4, 8};

    private static void range(long number, long from, long to) {
        if (number < from || number > to) {
            throw new IllegalArgumentException();
        }
    }

    private static byte[] join(byte[] a, byte[] b) {
        byte[] all = Arrays.copyOf(a, a.length + b.length);
        System.arraycopy(b, 0, all, a.length, b.length);
        return all;
    }

    private static byte[] lowest(long number, int count) {
        return Arrays.copyOfRange(ByteBuffer.allocate(8).putLong(number).array(), 8 - count, 8);
    }

    private int data(byte[] bytes) {
        if (log.length + pending.length + bytes.length > 1500) {
            return -2;
        }
        if (!writingBlocks) {
            log = join(log, bytes);
            return bytes.length;
        }
        pending = join(pending, bytes);
        if (pending.length >= 1024) {
            byte[] rest = Arrays.copyOfRange(pending, 1024, pending.length);
            pending = Arrays.copyOf(pending, 1024);
            flush();
            pending = rest;
        }
        return bytes.length;
    }

    int raw(long bytes, int count) {
        range(count, 1, 8);
        if (writingBlocks) {
            throw new IllegalStateException();
        }
        return data(lowest(bytes, count)) < 0 ? -2 : log.length;
    }

    int blocks(boolean on) {
        if (writingBlocks != on) {
            flush();
        }
        writingBlocks = on;
        return log.length;
    }

    int write(int kind, long number) {
        range(kind, 0, 5);
        return data(kind == 0 ? new byte[] {(byte) (number == 0 ? 0 : 1)} : lowest(number, SIZES[kind]));
    }

    int writeFloat(float value, int scale) {
        range(scale, -300, 300);
        float scaled = value;
        for (int i = 0; i < Math.abs(scale); i++) {
            scaled *= scale > 0 ? 2f : 0.5f;
        }
        return data(ByteBuffer.allocate(4).putFloat(scaled == 0 ? 0f : scaled).array());
    }

    int writeDouble(double value, int scale) {
        range(scale, -2200, 2200);
        double scaled = value;
        for (int i = 0; i < Math.abs(scale); i++) {
            scaled *= scale > 0 ? 2 : 0.5;
        }
        return data(ByteBuffer.allocate(8).putDouble(scaled == 0 ? 0.0 : scaled).array());
    }

    int put(int place, int code) {
        range(place, 0, 39);
        range(code, 0, 65535);
        codes[place] = (char) code;
        return code;
    }

    int writeText(int length) {
        range(length, 0, 40);
        try {
            ByteArrayOutputStream bytes = new ByteArrayOutputStream();
            new DataOutputStream(bytes).writeUTF(new String(codes, 0, length));
            return data(bytes.toByteArray());
        } catch (IOException e) {
            throw new AssertionError(e);
        }
    }

    int flush() {
        if (pending.length > 0) {
            byte[] number = lowest(pending.length, pending.length > 255 ? 4 : 1);
            log = join(join(join(log, new byte[] {(byte) (pending.length > 255 ? 0x7A : 0x77)}), number), pending);
            pending = new byte[0];
        }
        return log.length;
    }

    /** Moves to the next byte of data and answers its place, or -1 if the data end. */
    private int step() {
        while (position[BLOCKS] == 1 && position[LEFT] == 0) {
            if (position[PLACE] == log.length) {
                return -1;
            }
            ByteBuffer rest = ByteBuffer.wrap(log, position[PLACE], log.length - position[PLACE]);
            int mark = rest.get() & 0xFF;
            if (mark == 0x79) {
                position[RESETS]++;
            } else if (mark == 0x77 && rest.remaining() >= 1) {
                position[LEFT] = rest.get() & 0xFF;
            } else if (mark == 0x7A && rest.remaining() >= 4) {
                position[LEFT] = rest.getInt();
            } else if (mark < 0x70 || mark > 0x7E || mark == 0x77 || mark == 0x7A) {
                throw new IllegalStateException();
            } else {
                return -1;
            }
            if (position[LEFT] < 0) {
                throw new IllegalStateException();
            }
            position[PLACE] = rest.position();
        }
        if (position[PLACE] == log.length) {
            return -1;
        }
        position[LEFT] -= position[BLOCKS];
        return position[PLACE]++;
    }

    private byte[] take(int count) {
        byte[] bytes = new byte[count];
        for (int i = 0; i < count; i++) {
            int place = step();
            if (place < 0) {
                throw new NoSuchElementException();
            }
            bytes[i] = log[place];
        }
        return bytes;
    }

    long read(int kind) {
        range(kind, 0, 5);
        ByteBuffer bytes = ByteBuffer.wrap(take(SIZES[kind]));
        switch (kind) {
            case 0: return bytes.get() == 0 ? 0 : 1;
            case 1: return bytes.get();
            case 2: return bytes.getChar();
            case 3: return bytes.getShort();
            case 4: return bytes.getInt();
            default: return bytes.getLong();
        }
    }

    double readFloat() {
        return number(ByteBuffer.wrap(take(4)).getFloat());
    }

    double readDouble() {
        return number(ByteBuffer.wrap(take(8)).getDouble());
    }

    private double number(double value) {
        noNumber = Double.isNaN(value) ? 1 : 0;
        return Double.isNaN(value) ? 0 : value;
    }

    int readText() {
        byte[] number = take(2);
        byte[] bytes = take(ByteBuffer.wrap(number).getChar());
        try {
            String text = new DataInputStream(new ByteArrayInputStream(join(number, bytes))).readUTF();
            range(text.length(), 0, 40);
            text.getChars(0, text.length(), codes, 0);
            return text.length();
        } catch (UTFDataFormatException e) {
            throw new IllegalArgumentException(e);
        } catch (IOException e) {
            throw new AssertionError(e);
        }
    }

    int readBlocks(boolean on) {
        if (position[BLOCKS] == 1 && !on && position[LEFT] != 0) {
            throw new IllegalStateException();
        }
        position[BLOCKS] = on ? 1 : 0;
        return position[PLACE];
    }

    int skip(int count) {
        range(count, 0, 1500);
        int passed = 0;
        while (passed < count && step() >= 0) {
            passed++;
        }
        return passed;
    }

    int rewind() {
        position = new int[] {0, 0, position[RESETS], 0};
        return log.length;
    }

    int byteAt(int place) {
        return place < 0 || place >= log.length ? -1 : log[place] & 0xFF;
    }

    int code(int place) {
        range(place, 0, 39);
        return codes[place];
    }

    int state(int what) {
        range(what, 0, 5);
        int[] all = {log.length, pending.length, position[PLACE], position[LEFT], position[RESETS], noNumber};
        return all[what];
    }
}

import java.util.NoSuchElementException;

/** Promises 7, 8, 13 and 18: the text buffer, and texts in bytes. */
public final class TextTest {
    private static final Class<IllegalArgumentException> ARGUMENT = IllegalArgumentException.class;

    public static void main(String[] args) {
        buffer();
        bufferRefusals();
        writtenCodes();
        everyCode();
        lengths();
        writtenInBlocks();
        readCodes();
        longForms();
        malformed();
        malformedBehindAnother();
        textThatFillsTheLog();
        refusalsChangeNothing();
        tooManyCodes();
        bytesComeFirst();
        readOverBlocks();
        Check.finish();
    }

    private static void buffer() {
        WireData data = new WireData();
        Check.same("promise 7: put", data.put(0, 65535), 65535);
        Check.same("promise 7: put", data.put(39, 1), 1);
        Check.same("promise 7: put of 0", data.put(1, 0), 0);
        Check.same("promise 18: code(0)", data.code(0), 65535);
        Check.same("promise 18: code(39)", data.code(39), 1);
        Check.same("promise 18: code(1)", data.code(1), 0);
        data.put(0, 7);
        Check.same("promise 7: put again", data.code(0), 7);
        Check.states("promise 7: nothing else", data, 0, 0, 0, 0, 0, 0);
    }

    private static void bufferRefusals() {
        WireData data = new WireData();
        data.put(0, 5);
        for (int place : new int[] {-1, 40, Integer.MIN_VALUE, Integer.MAX_VALUE}) {
            Check.refused("promise 7: place " + place, ARGUMENT, () -> data.put(place, 1));
            Check.refused("promise 18: place " + place, ARGUMENT, () -> data.code(place));
        }
        for (int code : new int[] {-1, 65536, Integer.MIN_VALUE, Integer.MAX_VALUE}) {
            Check.refused("promise 7: code " + code, ARGUMENT, () -> data.put(0, code));
        }
        for (int length : new int[] {-1, 41, Integer.MIN_VALUE, Integer.MAX_VALUE}) {
            Check.refused("promise 8: length " + length, ARGUMENT, () -> data.writeText(length));
        }
        Check.same("promise 7: refusals change nothing", data.code(0), 5);
        Check.same("promise 8: refusals write nothing", data.state(0), 0);
        Bytes.fill(data, 1500);
        Check.refused("promise 8: the range is tested before FULL", ARGUMENT, () -> data.writeText(41));
    }

    private static void writtenCodes() {
        writes(0, 0xC0, 0x80);
        writes(1, 1);
        writes(127, 127);
        writes(128, 0xC2, 0x80);
        writes(2047, 0xDF, 0xBF);
        writes(2048, 0xE0, 0xA0, 0x80);
        writes(8364, 0xE2, 0x82, 0xAC);
        writes(0xD800, 0xED, 0xA0, 0x80);
        writes(65535, 0xEF, 0xBF, 0xBF);
    }

    private static void writes(int code, int... bytes) {
        WireData data = new WireData();
        data.raw(0x55, 1);
        data.put(0, code);
        Check.same("promise 8: text of " + code, data.writeText(1), 2 + bytes.length);
        int[] due = new int[2 + bytes.length];
        due[1] = bytes.length;
        System.arraycopy(bytes, 0, due, 2, bytes.length);
        Check.logFrom("promise 8: text of " + code, data, 1, due);
    }

    private static void everyCode() {
        for (int from = 0; from <= 65535; from += 40) {
            WireData data = new WireData();
            int count = Math.min(40, 65536 - from);
            for (int i = 0; i < count; i++) {
                data.put(i, from + i);
            }
            data.writeText(count);
            for (int i = 0; i < count; i++) {
                data.put(i, 63);
            }
            Check.same("promise 13: codes from " + from, data.readText(), count);
            for (int i = 0; i < count; i++) {
                Check.same("promise 13: code", data.code(i), from + i);
            }
        }
    }

    private static void lengths() {
        WireData data = new WireData();
        Check.same("promise 8: empty", data.writeText(0), 2);
        Check.logFrom("promise 8: empty", data, 0, 0, 0);
        Check.same("promise 8: 40 codes 0", data.writeText(40), 82);
        for (int i = 0; i < 40; i++) {
            data.put(i, 3000);
        }
        Check.same("promise 8: 40 codes of three bytes", data.writeText(40), 122);
        Check.same("promise 8: length of the log", data.state(0), 206);
        Check.same("promise 13: empty", data.readText(), 0);
        Check.same("promise 13: an empty text leaves the buffer", data.code(0), 3000);
        Check.same("promise 13: 40 codes 0", data.readText(), 40);
        Check.same("promise 13: last code 0", data.code(39), 0);
        Check.same("promise 13: 40 codes of three bytes", data.readText(), 40);
        Check.same("promise 13: last code", data.code(39), 3000);
        Check.same("promise 13: PLACE", data.state(2), 206);
    }

    private static void writtenInBlocks() {
        WireData data = new WireData();
        data.blocks(true);
        data.put(0, 65);
        data.put(1, 200);
        Check.same("promise 8: in block mode", data.writeText(2), 5);
        Check.states("promise 8: pending", data, 0, 5);
        data.flush();
        Check.logFrom("promise 8: in a block", data, 0, 0x77, 5, 0, 3, 65, 0xC3, 0x88);
    }

    private static void readCodes() {
        WireData data = Bytes.log(0, 6, 0x41, 0xCE, 0xBB, 0xE2, 0x82, 0xAC, 0x42);
        data.put(2, 9);
        data.put(3, 8);
        data.put(39, 7);
        Check.same("promise 13: three codes", data.readText(), 3);
        int[] due = {0x41, 955, 8364, 8};
        for (int i = 0; i < due.length; i++) {
            Check.same("promise 13: code " + i, data.code(i), due[i]);
        }
        Check.same("promise 13: what is behind stays", data.code(39), 7);
        Check.same("promise 13: PLACE", data.state(2), 8);
    }

    private static void longForms() {
        reads(0, 0x00);
        reads(0, 0xC0, 0x80);
        reads(0, 0xE0, 0x80, 0x80);
        reads(0x41, 0xC1, 0x81);
        reads(0x41, 0xE0, 0x81, 0x81);
        reads(0x7FF, 0xE0, 0x9F, 0xBF);
        reads(0x7F, 0x7F);
        reads(0xDC00, 0xED, 0xB0, 0x80);
    }

    private static void reads(int code, int... bytes) {
        WireData data = Bytes.text(bytes);
        data.put(0, 77);
        Check.same("promise 13: text of " + code, data.readText(), 1);
        Check.same("promise 13: its code", data.code(0), code);
    }

    private static void malformed() {
        int[][] wrong = {{0x80}, {0xBF}, {0xF0}, {0xFF}, {0x80, 0x80}, {0xBF, 0x80},
            {0xF0, 0x80, 0x80}, {0xFF, 0x80, 0x80}, {0xF0, 0x80, 0x80, 0x80}, {0xC3}, {0x41, 0xDF}, {0xE2},
            {0xE2, 0x82}, {0x41, 0xEF, 0xBF}, {0xC3, 0x7F}, {0xC3, 0xC0}, {0xC3, 0x00}, {0xC3, 0xFF},
            {0xE2, 0x7F, 0x80}, {0xE2, 0xC0, 0x80}, {0xE2, 0x82, 0x7F}, {0xE2, 0x82, 0xC0}, {0xE2, 0x82, 0x00},
            {0x41, 0x42, 0x80}};
        for (int[] bytes : wrong) {
            WireData data = Bytes.text(bytes);
            // A byte that would fit lies behind the text, but is none of it.
            Bytes.add(data, 0x80, 0x80);
            Check.refused("promise 13: " + java.util.Arrays.toString(bytes), ARGUMENT, data::readText);
            Check.same("promise 13: PLACE stays", data.state(2), 0);
        }
    }

    private static void malformedBehindAnother() {
        // The bytes of the first text would make the second one whole.
        WireData two = Bytes.log(0, 3, 0x41, 0xC3, 0x88, 0, 2, 0x41, 0xC3);
        two.readText();
        Check.refused("promise 13: cut behind a whole text", ARGUMENT, two::readText);
        WireData three = Bytes.log(0, 4, 0x41, 0xE2, 0x82, 0xAC, 0, 3, 0x41, 0xE2, 0x82);
        three.readText();
        Check.refused("promise 13: cut behind a whole text", ARGUMENT, three::readText);
    }

    private static void textThatFillsTheLog() {
        WireData data = new WireData();
        Bytes.fill(data, 1496);
        data.put(0, 128);
        data.put(1, 128);
        Check.same("promise 8: two bytes too many", data.writeText(2), WireData.FULL);
        Check.same("promise 8: length of the log", data.state(0), 1496);
        Check.same("promise 8: just as many as fit", data.writeText(1), 4);
    }

    private static void refusalsChangeNothing() {
        WireData data = Bytes.blocks(0x79, 0x77, 1, 0, 0x77, 3, 2, 0x41, 0x80);
        data.put(0, 5);
        Check.refused("promise 13: malformed at its end", ARGUMENT, data::readText);
        Check.same("promise 13: the buffer stays", data.code(0), 5);
        Check.states("promise 13: all stays", data, 9, 0, 0, 0, 0, 0);
        Check.same("promise 10: reading goes on as before", data.read(4), 0x00024180);
        Check.same("promise 19: one reset", data.state(4), 1);
    }

    private static void tooManyCodes() {
        Check.same("promise 13: 40 codes", Bytes.text(Bytes.repeated(40, 0x42)).readText(), 40);
        Check.refused("promise 13: 41 codes", ARGUMENT, Bytes.text(Bytes.repeated(41, 0x42))::readText);
        Check.refused("promise 13: 121 codes", ARGUMENT, Bytes.text(Bytes.repeated(121, 0x42))::readText);
        Check.refused("promise 13: 1000 codes", ARGUMENT, Bytes.text(Bytes.repeated(1000, 0x42))::readText);
        Check.same("promise 13: 120 bytes", Bytes.text(Bytes.repeated(40, 0xE3, 0x81, 0x82)).readText(), 40);
        Check.refused("promise 13: 123 bytes", ARGUMENT, Bytes.text(Bytes.repeated(41, 0xE3, 0x81, 0x82))::readText);
        Check.refused("promise 13: 41 of two bytes", ARGUMENT, Bytes.text(Bytes.repeated(41, 0xC2, 0x82))::readText);
    }

    private static void bytesComeFirst() {
        Check.refused("promise 13: no byte", NoSuchElementException.class, Bytes.log()::readText);
        Check.refused("promise 13: one byte", NoSuchElementException.class, Bytes.log(0)::readText);
        Check.refused("promise 13: the end goes before the form", NoSuchElementException.class,
                Bytes.log(0, 2, 0x80)::readText);
        Check.refused("promise 13: the number is 0 .. 65535", NoSuchElementException.class,
                Bytes.log(255, 255, 0x41)::readText);
        Check.refused("promise 13: the end goes before too many", NoSuchElementException.class,
                Bytes.text(200, Bytes.repeated(199, 0x41))::readText);
        Check.refused("promise 13: corrupt goes before the form", IllegalStateException.class,
                Bytes.blocks(0x77, 3, 0, 2, 0x80, 0x6F)::readText);
        Check.refused("promise 13: an end in blocks", NoSuchElementException.class,
                Bytes.blocks(0x77, 3, 0, 2, 0x80, 0x70)::readText);
    }

    private static void readOverBlocks() {
        WireData data = Bytes.blocks(0x77, 1, 0, 0x79, 0x7A, 0, 0, 0, 2, 2, 0xC3, 0x77, 2, 0x88, 5);
        Check.same("promise 13: over blocks", data.readText(), 1);
        Check.same("promise 13: its code", data.code(0), 200);
        Check.states("promise 13: over blocks", data, 15, 0, 14, 1, 1, 0);
    }
}

import java.util.NoSuchElementException;

/** Boundary cases of texts, one test for each sentence: Terms, promises 7, 8, 13 and 18. */
public final class TextEdgesTest {
    private static final Class<IllegalArgumentException> ARGUMENT = IllegalArgumentException.class;
    private static final Class<IllegalStateException> STATE = IllegalStateException.class;
    private static final Class<NoSuchElementException> ELEMENT = NoSuchElementException.class;
    private static final int[] WRONG_PLACES = {-1, 40, 41, Integer.MIN_VALUE, Integer.MAX_VALUE};

    public static void main(String[] args) {
        fortyCodesAllZero();
        codesOfOneByte();
        codesOfTwoBytes();
        codesOfThreeBytes();
        numberOfBytes();
        putPlaces();
        putCodes();
        putAnswersTheCode();
        writtenLengths();
        writeTextAnswersAllBytes();
        readFromPlaceZero();
        whatIsBehindStays();
        emptyText();
        bytesComeFirst();
        corruptComesFirst();
        moreThanFortyCodes();
        wrongFirstBytes();
        rightFirstBytes();
        wrongSecondBytes();
        wrongThirdBytes();
        codeBehindTheLastByte();
        moreBytesThanNeeded();
        textOverBlocks();
        malformedInBlocks();
        codePlaces();
        Check.finish();
    }

    private static void fortyCodesAllZero() {
        Check.sentence("TEXT BUFFER", "40 codes 0 .. 65535, all 0 at first");
        WireData data = new WireData();
        for (int i = 0; i < 40; i++) {
            Check.same("code(" + i + ")", data.code(i), 0);
        }
        for (int i = 0; i < 40; i++) {
            data.put(i, 65535 - i);
        }
        for (int i = 0; i < 40; i++) {
            Check.same("code(" + i + ")", data.code(i), 65535 - i);
        }
    }

    private static void writes(int code, int... bytes) {
        WireData data = new WireData();
        data.put(0, code);
        Check.same("writeText of " + code, data.writeText(1), 2 + bytes.length);
        Check.same("number of bytes of " + code, data.read(2), bytes.length);
        Check.logFrom("text of " + code, data, 2, bytes);
    }

    private static void codesOfOneByte() {
        Check.sentence("TEXT BUFFER", "A code c is written as one byte if it is 1 .. 127");
        writes(1, 1);
        writes(2, 2);
        writes(126, 126);
        writes(127, 127);
    }

    private static void codesOfTwoBytes() {
        Check.sentence("TEXT BUFFER", "as two, C0 + c / 64, 80 + c % 64, if it is 0 or 128 .. 2047");
        writes(0, 0xC0, 0x80);
        writes(128, 0xC2, 0x80);
        writes(191, 0xC2, 0xBF);
        writes(192, 0xC3, 0x80);
        writes(2047, 0xDF, 0xBF);
    }

    private static void codesOfThreeBytes() {
        Check.sentence("TEXT BUFFER", "else as three, E0 + c / 4096, 80 + c / 64 % 64, 80 + c % 64");
        writes(2048, 0xE0, 0xA0, 0x80);
        writes(4095, 0xE0, 0xBF, 0xBF);
        writes(4096, 0xE1, 0x80, 0x80);
        writes(0xD800, 0xED, 0xA0, 0x80);
        writes(0xDFFF, 0xED, 0xBF, 0xBF);
        writes(65535, 0xEF, 0xBF, 0xBF);
    }

    private static void numberOfBytes() {
        Check.sentence("TEXT BUFFER", "A text is its number of bytes as two bytes, and the bytes");
        WireData data = new WireData();
        data.writeText(0);
        Check.logFrom("an empty text", data, 0, 0, 0);
        data.put(0, 65535);
        data.put(1, 1);
        data.writeText(3);
        Check.logFrom("bytes are counted, not codes", data, 2, 0, 6, 0xEF, 0xBF, 0xBF, 1, 0xC0, 0x80);
        Check.refused("256 bytes, 255 there", ELEMENT, Bytes.text(256, Bytes.repeated(255, 0x41))::readText);
        Check.refused("65535 bytes, 1 there", ELEMENT, Bytes.log(255, 255, 0x41)::readText);
    }

    private static void putPlaces() {
        Check.sentence("Promise 7", "Sets place 0 .. 39 of the TEXT BUFFER");
        WireData data = new WireData();
        data.put(0, 8);
        data.put(39, 9);
        Check.same("code(0)", data.code(0), 8);
        Check.same("code(1)", data.code(1), 0);
        Check.same("code(38)", data.code(38), 0);
        Check.same("code(39)", data.code(39), 9);
        for (int place : WRONG_PLACES) {
            Check.refused("place " + place, ARGUMENT, () -> data.put(place, 1));
        }
    }

    private static void putCodes() {
        Check.sentence("Promise 7", "to a code 0 .. 65535");
        WireData data = new WireData();
        data.put(5, 65535);
        Check.same("65535", data.code(5), 65535);
        for (int code : new int[] {-1, 65536, 65536 + 65, Integer.MIN_VALUE, Integer.MAX_VALUE}) {
            Check.refused("code " + code, ARGUMENT, () -> data.put(5, code));
        }
        Check.same("refused calls", data.code(5), 65535);
        data.put(5, 0);
        Check.same("0", data.code(5), 0);
        Check.refused("place and code wrong", ARGUMENT, () -> data.put(40, 65536));
    }

    private static void putAnswersTheCode() {
        Check.sentence("Promise 7", "answers it");
        WireData data = new WireData();
        Check.same("65535 at 0", data.put(0, 65535), 65535);
        Check.same("0 at 0", data.put(0, 0), 0);
        Check.same("1 at 39", data.put(39, 1), 1);
    }

    private static void writtenLengths() {
        Check.sentence("Promise 8", "the first length 0 .. 40 codes of the TEXT BUFFER");
        WireData data = new WireData();
        for (int i = 0; i < 40; i++) {
            data.put(i, 0x40 + i);
        }
        Check.same("40 codes", data.writeText(40), 42);
        for (int i = 0; i < 40; i++) {
            Check.same("byte of code " + i, data.byteAt(2 + i), 0x40 + i);
        }
        Check.same("no code", data.writeText(0), 2);
        Check.same("one code", data.writeText(1), 3);
        Check.logFrom("no code, and the first", data, 42, 0, 0, 0, 1, 0x40);
        for (int length : new int[] {-1, 41, Integer.MIN_VALUE, Integer.MAX_VALUE}) {
            Check.refused("length " + length, ARGUMENT, () -> data.writeText(length));
        }
        Check.same("refused calls", data.state(0), 47);
    }

    private static void writeTextAnswersAllBytes() {
        Check.sentence("Promise 8", "Answers how many bytes of data, the two of the number counted");
        WireData data = new WireData();
        Check.same("none", data.writeText(0), 2);
        Check.same("40 codes of two bytes", data.writeText(40), 82);
        for (int i = 0; i < 40; i++) {
            data.put(i, 65535);
        }
        Check.same("40 codes of three bytes", data.writeText(40), 122);
        data.blocks(true);
        Check.same("in block mode, without the header", data.writeText(40), 122);
        Check.states("in block mode", data, 206, 122);
    }

    private static void readFromPlaceZero() {
        Check.sentence("Promise 13", "Reads a text into the TEXT BUFFER from place 0 on; answers how many codes");
        WireData data = Bytes.text(0x41, 0xCE, 0xBB, 0xE2, 0x82, 0xAC);
        Check.same("three codes of six bytes", data.readText(), 3);
        Check.same("code(0)", data.code(0), 0x41);
        Check.same("code(1)", data.code(1), 955);
        Check.same("code(2)", data.code(2), 8364);
        Check.same("PLACE", data.state(2), 8);
    }

    private static void whatIsBehindStays() {
        Check.sentence("Promise 13", "what is behind it stays");
        WireData data = Bytes.text(0x41, 0x42);
        for (int i = 0; i < 40; i++) {
            data.put(i, 1000 + i);
        }
        data.readText();
        Check.same("code(1)", data.code(1), 0x42);
        for (int i = 2; i < 40; i++) {
            Check.same("code(" + i + ")", data.code(i), 1000 + i);
        }
    }

    private static void emptyText() {
        Check.sentence("Promise 13", "its two bytes and all the bytes it then has, where it has none");
        WireData data = Bytes.log(0, 0);
        data.put(0, 7);
        Check.same("no codes", data.readText(), 0);
        Check.same("code(0)", data.code(0), 7);
        Check.same("PLACE", data.state(2), 2);
        WireData blocks = Bytes.blocks(0x77, 2, 0, 0, 0x6F);
        Check.same("before CORRUPT", blocks.readText(), 0);
    }

    private static void bytesComeFirst() {
        Check.sentence("Promise 13", "First come its two bytes and all the bytes it then has: NoSuchElementException");
        Check.refused("no byte", ELEMENT, Bytes.log()::readText);
        Check.refused("one byte", ELEMENT, Bytes.log(0)::readText);
        Check.refused("the text itself is not there", ELEMENT, Bytes.log(0, 1)::readText);
        Check.refused("a byte too few", ELEMENT, Bytes.log(0, 3, 0x41, 0x42)::readText);
        Check.refused("a byte too few, malformed", ELEMENT, Bytes.log(0, 3, 0x80, 0xFF)::readText);
        Check.refused("a byte too few, 41 codes", ELEMENT, Bytes.text(42, Bytes.repeated(41, 0x41))::readText);
        Check.refused("a byte too few, 121 bytes", ELEMENT, Bytes.text(122, Bytes.repeated(121, 0x41))::readText);
        Check.refused("the data end in blocks", ELEMENT, Bytes.blocks(0x77, 3, 0, 2, 0x80, 0x7E)::readText);
        Check.refused("the data end in the number", ELEMENT, Bytes.blocks(0x77, 1, 0, 0x70)::readText);
    }

    private static void corruptComesFirst() {
        Check.sentence("Promise 13", "First come .. all the bytes it then has: IllegalStateException for CORRUPT");
        Check.refused("in a malformed text", STATE, Bytes.blocks(0x77, 3, 0, 2, 0x80, 0x7F)::readText);
        Check.refused("in the number", STATE, Bytes.blocks(0x77, 1, 0, 0x6F)::readText);
        Check.refused("behind the number", STATE, Bytes.blocks(0x77, 2, 0, 1, 0x77)::readText);
        WireData behind = Bytes.blocks(0x77, 3, 0, 1, 0x41, 0x6F);
        Check.same("CORRUPT behind the text", behind.readText(), 1);
        Check.refused("malformed before CORRUPT", ARGUMENT, Bytes.blocks(0x77, 3, 0, 1, 0x80, 0x6F)::readText);
    }

    private static void moreThanFortyCodes() {
        Check.sentence("Promise 13", "More than 40 codes: IllegalArgumentException");
        int[][] codes = {{0x42}, {0xC2, 0x82}, {0xE3, 0x81, 0x82}};
        for (int[] code : codes) {
            WireData data = Bytes.text(Bytes.repeated(40, code));
            Check.same("40 codes of " + code.length, data.readText(), 40);
            Check.isTrue("the last code", data.code(39) != 0);
            Check.refused("41 codes of " + code.length, ARGUMENT, Bytes.text(Bytes.repeated(41, code))::readText);
            Check.refused("120 codes of " + code.length, ARGUMENT, Bytes.text(Bytes.repeated(120, code))::readText);
        }
        for (int count : new int[] {119, 120, 121, 122, 255, 256, 257, 296, 1498}) {
            Check.refused(count + " codes", ARGUMENT, Bytes.text(Bytes.repeated(count, 0x42))::readText);
        }
    }

    private static void wrongFirstBytes() {
        Check.sentence("Promise 13", "a byte 80 .. BF or F0 .. FF where a code begins: IllegalArgumentException");
        for (int first = 0x80; first <= 0xFF; first++) {
            if (first >= 0xC0 && first <= 0xEF) {
                continue;
            }
            Check.refused("first byte " + first, ARGUMENT, Bytes.text(first, 0x80, 0x80, 0x80)::readText);
            Check.refused("alone " + first, ARGUMENT, Bytes.text(first)::readText);
            Check.refused("as of two " + first, ARGUMENT, Bytes.text(first, 0x80)::readText);
            Check.refused("as of three " + first, ARGUMENT, Bytes.text(first, 0x80, 0x80)::readText);
            Check.refused("behind a code " + first, ARGUMENT, Bytes.text(0x41, first, 0x41)::readText);
        }
    }

    private static void rightFirstBytes() {
        Check.sentence("Promise 13", "where a code begins, the bytes beside 80 .. BF and F0 .. FF");
        reads(0, 0);
        reads(0x7F, 0x7F);
        reads(0, 0xC0, 0x80);
        reads(0x7C0, 0xDF, 0x80);
        reads(0, 0xE0, 0x80, 0x80);
        reads(0xF000, 0xEF, 0x80, 0x80);
    }

    private static void reads(int code, int... bytes) {
        WireData data = Bytes.text(bytes);
        data.put(0, 77);
        Check.same("codes of " + java.util.Arrays.toString(bytes), data.readText(), 1);
        Check.same("code of " + java.util.Arrays.toString(bytes), data.code(0), code);
    }

    private static void wrongSecondBytes() {
        Check.sentence("Promise 13", "a byte that is not 80 .. BF as the second of a code: IllegalArgumentException");
        for (int second : new int[] {0, 0x41, 0x7F, 0xC0, 0xE0, 0xF0, 0xFF}) {
            Check.refused("second of two " + second, ARGUMENT, Bytes.text(0xC2, second)::readText);
            Check.refused("second of three " + second, ARGUMENT, Bytes.text(0xE2, second, 0x80)::readText);
        }
        reads(0x80, 0xC2, 0x80);
        reads(0xBF, 0xC2, 0xBF);
        reads(0x2000, 0xE2, 0x80, 0x80);
        reads(0x2FC0, 0xE2, 0xBF, 0x80);
    }

    private static void wrongThirdBytes() {
        Check.sentence("Promise 13", "a byte that is not 80 .. BF as the third of a code: IllegalArgumentException");
        for (int third : new int[] {0, 0x41, 0x7F, 0xC0, 0xE0, 0xF0, 0xFF}) {
            Check.refused("third " + third, ARGUMENT, Bytes.text(0xE2, 0x80, third)::readText);
        }
        reads(0x2000, 0xE2, 0x80, 0x80);
        reads(0x203F, 0xE2, 0x80, 0xBF);
    }

    private static void codeBehindTheLastByte() {
        Check.sentence("Promise 13", "a code that goes on behind the last byte: IllegalArgumentException");
        Check.refused("the first of two", ARGUMENT, Bytes.text(1, new int[] {0xC2, 0x80})::readText);
        Check.refused("the first of three", ARGUMENT, Bytes.text(1, new int[] {0xE2, 0x80, 0x80})::readText);
        Check.refused("two of three", ARGUMENT, Bytes.text(2, new int[] {0xE2, 0x80, 0x80})::readText);
        Check.refused("behind a code", ARGUMENT, Bytes.text(2, new int[] {0x41, 0xC2, 0x80})::readText);
        // What an earlier text left behind must not make the code whole.
        WireData again = Bytes.log(0, 3, 0xE2, 0x82, 0xAC, 0, 2, 0xE2, 0x82);
        Check.same("a whole text", again.readText(), 1);
        Check.refused("the same, cut", ARGUMENT, again::readText);
        WireData second = Bytes.log(0, 4, 0x41, 0xE2, 0x82, 0xAC, 0, 3, 0x41, 0xE2, 0x82);
        Check.same("a whole text of two codes", second.readText(), 2);
        Check.refused("the same, cut", ARGUMENT, second::readText);
        int[] filled = Bytes.repeated(40, 0xE2, 0x82, 0xAC);
        Check.refused("the 40th of 40", ARGUMENT, Bytes.text(119, filled)::readText);
        Check.refused("the 40th of 40, cut more", ARGUMENT, Bytes.text(118, filled)::readText);
        Check.same("39 whole ones", Bytes.text(117, filled).readText(), 39);
    }

    private static void moreBytesThanNeeded() {
        Check.sentence("Promise 13", "a code may be written with more bytes than it needs");
        reads(0x41, 0xC1, 0x81);
        reads(0x7F, 0xC1, 0xBF);
        reads(1, 0xC0, 0x81);
        reads(1, 0xE0, 0x80, 0x81);
        reads(0x7F, 0xE0, 0x81, 0xBF);
        reads(0x80, 0xE0, 0x82, 0x80);
        reads(0x7FF, 0xE0, 0x9F, 0xBF);
    }

    private static void textOverBlocks() {
        Check.sentence("Promise 13", "its two bytes and all the bytes it then has, in several blocks");
        WireData data = Bytes.blocks(0x77, 1, 0, 0x79, 0x7A, 0, 0, 0, 2, 3, 0xE2, 0x77, 0, 0x77, 3, 0x82, 0xAC, 9);
        Check.same("a code of two blocks", data.readText(), 1);
        Check.same("code(0)", data.code(0), 8364);
        Check.states("a code of two blocks", data, 18, 0, 17, 1, 1, 0);
    }

    private static void malformedInBlocks() {
        Check.sentence("Promise 13", "a text that is not formed as above, in blocks");
        WireData data = Bytes.blocks(0x79, 0x77, 3, 0, 3, 0x41, 0x79, 0x77, 3, 0xC3, 0x41, 0x42);
        data.put(0, 7);
        Check.refused("over two blocks", ARGUMENT, data::readText);
        Check.states("nothing is passed", data, 12, 0, 0, 0, 0, 0);
        Check.same("code(0)", data.code(0), 7);
    }

    private static void codePlaces() {
        Check.sentence("Promise 18", "The code at place 0 .. 39 of the TEXT BUFFER");
        WireData data = new WireData();
        data.put(0, 1);
        data.put(39, 65535);
        Check.same("code(0)", data.code(0), 1);
        Check.same("code(39)", data.code(39), 65535);
        for (int place : WRONG_PLACES) {
            Check.refused("place " + place, ARGUMENT, () -> data.code(place));
        }
    }
}

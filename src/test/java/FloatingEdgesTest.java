import java.util.NoSuchElementException;

/** Boundary cases of floating values, one test for each sentence: Terms, promises 5, 6, 11 and 12. */
public final class FloatingEdgesTest {
    private static final Class<IllegalArgumentException> ARGUMENT = IllegalArgumentException.class;
    private static final Class<IllegalStateException> STATE = IllegalStateException.class;
    private static final Class<NoSuchElementException> ELEMENT = NoSuchElementException.class;

    private static final double LEAST = 4.9E-324;
    private static final double LEAST_NORMAL = 2.2250738585072014E-308;
    private static final double LARGEST_BELOW_NORMAL = 2.225073858507201E-308;
    private static final double LARGEST = 1.7976931348623157E308;
    private static final double INFINITE = Double.POSITIVE_INFINITY;
    private static final float LEAST_FLOAT = 1.4E-45f;
    private static final float LEAST_NORMAL_FLOAT = 1.17549435E-38f;
    private static final float LARGEST_BELOW_NORMAL_FLOAT = 1.1754942E-38f;
    private static final float LARGEST_FLOAT = 3.4028235E38f;
    private static final float INFINITE_FLOAT = Float.POSITIVE_INFINITY;

    public static void main(String[] args) {
        exponentsWithAOne();
        exponentZero();
        exponentAllOnes();
        noNumber();
        signs();
        scaledByNothing();
        scaledUp();
        scaledDown();
        roundedEachTime();
        zeroHasNoBits();
        floatScaleLimits();
        doubleScaleLimits();
        writingAnswersItsSize();
        tooFewBytes();
        corruptBytes();
        valuesOverBlocks();
        noNumberAnswersZero();
        Check.finish();
    }

    private static long written(double value, int scale) {
        WireData data = new WireData();
        data.writeDouble(value, scale);
        return data.read(5);
    }

    /** The four bytes as a number 0 .. FFFFFFFF. */
    private static long writtenFloat(float value, int scale) {
        WireData data = new WireData();
        data.writeFloat(value, scale);
        return data.read(4) & 0xFFFFFFFFL;
    }

    private static void bothWays(double value, long bits) {
        Check.same("bits of the double " + value, written(value, 0), bits);
        WireData data = new WireData();
        data.raw(bits, 8);
        Check.same("double of the bits " + Long.toHexString(bits), data.readDouble(), value);
        Check.same("NO NUMBER at " + Long.toHexString(bits), data.state(5), 0);
    }

    private static void bothWaysFloat(float value, long bits) {
        Check.same("bits of the float " + value, writtenFloat(value, 0), bits);
        WireData data = new WireData();
        data.raw(bits, 4);
        Check.same("float of the bits " + Long.toHexString(bits), data.readFloat(), value);
        Check.same("NO NUMBER at " + Long.toHexString(bits), data.state(5), 0);
    }

    private static void exponentsWithAOne() {
        Check.sentence("FLOATING VALUES", "E from 1 up to all ones less one: (1 + M / 2^W) times 2^(E - B)");
        bothWays(LEAST_NORMAL, 0x0010000000000000L);
        bothWays(LARGEST, 0x7FEFFFFFFFFFFFFFL);
        bothWays(1, 0x3FF0000000000000L);
        bothWays(1.0000000000000002, 0x3FF0000000000001L);
        bothWays(0.9999999999999999, 0x3FEFFFFFFFFFFFFFL);
        bothWays(1.9999999999999998, 0x3FFFFFFFFFFFFFFFL);
        bothWays(2, 0x4000000000000000L);
        bothWays(1.5, 0x3FF8000000000000L);
        bothWays(2.5, 0x4004000000000000L);
        bothWaysFloat(LEAST_NORMAL_FLOAT, 0x00800000);
        bothWaysFloat(LARGEST_FLOAT, 0x7F7FFFFF);
        bothWaysFloat(1, 0x3F800000);
        bothWaysFloat(1.0000001f, 0x3F800001);
        bothWaysFloat(0.99999994f, 0x3F7FFFFF);
        bothWaysFloat(1.9999999f, 0x3FFFFFFF);
        bothWaysFloat(2, 0x40000000);
        bothWaysFloat(1.5f, 0x3FC00000);
        bothWaysFloat(2.5f, 0x40200000);
    }

    private static void exponentZero() {
        Check.sentence("FLOATING VALUES", "E 0: M / 2^W times 2^(1 - B)");
        bothWays(0, 0);
        bothWays(LEAST, 1);
        bothWays(LARGEST_BELOW_NORMAL, 0x000FFFFFFFFFFFFFL);
        bothWays(1.1125369292536007E-308, 0x0008000000000000L);
        bothWaysFloat(0, 0);
        bothWaysFloat(LEAST_FLOAT, 1);
        bothWaysFloat(LARGEST_BELOW_NORMAL_FLOAT, 0x007FFFFF);
        bothWaysFloat(5.877472E-39f, 0x00400000);
    }

    private static void exponentAllOnes() {
        Check.sentence("FLOATING VALUES", "E all ones: M 0 infinite");
        bothWays(INFINITE, 0x7FF0000000000000L);
        bothWays(-INFINITE, 0xFFF0000000000000L);
        bothWaysFloat(INFINITE_FLOAT, 0x7F800000);
        bothWaysFloat(-INFINITE_FLOAT, 0xFF800000L);
    }

    private static void noNumber() {
        Check.sentence("FLOATING VALUES", "E all ones: M 0 infinite, else NO NUMBER");
        long[] doubles = {0x7FF0000000000001L, 0x7FF0000100000000L, 0x7FF8000000000000L, 0x7FFFFFFFFFFFFFFFL,
            0xFFF0000000000001L, -1L};
        for (long bits : doubles) {
            WireData data = new WireData();
            data.raw(bits, 8);
            Check.same("double of " + Long.toHexString(bits), data.readDouble(), 0);
            Check.same("NO NUMBER of " + Long.toHexString(bits), data.state(5), 1);
        }
        long[] floats = {0x7F800001L, 0x7F800100L, 0x7FC00000L, 0x7FFFFFFFL, 0xFF800001L, 0xFFFFFFFFL};
        for (long bits : floats) {
            WireData data = new WireData();
            data.raw(bits, 4);
            Check.same("float of " + Long.toHexString(bits), data.readFloat(), 0);
            Check.same("NO NUMBER of " + Long.toHexString(bits), data.state(5), 1);
        }
    }

    private static void signs() {
        Check.sentence("FLOATING VALUES", "sign 1: less than 0");
        bothWays(-1, 0xBFF0000000000000L);
        bothWays(-LEAST, 0x8000000000000001L);
        bothWays(-LARGEST, 0xFFEFFFFFFFFFFFFFL);
        bothWaysFloat(-1, 0xBF800000L);
        bothWaysFloat(-LEAST_FLOAT, 0x80000001L);
        bothWaysFloat(-LARGEST_FLOAT, 0xFF7FFFFFL);
        WireData zeros = new WireData();
        zeros.raw(Long.MIN_VALUE, 8);
        zeros.raw(0x80000000L, 4);
        Check.same("a double 0 with sign 1", zeros.readDouble(), 0);
        Check.same("a float 0 with sign 1", zeros.readFloat(), 0);
        Check.same("NO NUMBER", zeros.state(5), 0);
    }

    private static void scaledByNothing() {
        Check.sentence("SCALE", "by s: .. s or -s times, where s is 0");
        Check.same("least double", written(LEAST, 0), 1);
        Check.same("largest double", written(-LARGEST, 0), 0xFFEFFFFFFFFFFFFFL);
        Check.same("least float", writtenFloat(LEAST_FLOAT, 0), 1);
        Check.same("largest float", writtenFloat(-LARGEST_FLOAT, 0), 0xFF7FFFFFL);
    }

    private static void scaledUp() {
        Check.sentence("SCALE", "it is multiplied by 2 (s above 0)");
        Check.same("3 by 1", written(3, 1), 0x4018000000000000L);
        Check.same("least double by 51", written(LEAST, 51), 0x0008000000000000L);
        Check.same("least double by 52", written(LEAST, 52), 0x0010000000000000L);
        Check.same("least double by 2097", written(LEAST, 2097), 0x7FE0000000000000L);
        Check.same("least double by 2098", written(LEAST, 2098), 0x7FF0000000000000L);
        Check.same("1 by 1023", written(1, 1023), 0x7FE0000000000000L);
        Check.same("-1 by 1024", written(-1, 1024), 0xFFF0000000000000L);
        Check.same("infinite by 1", written(INFINITE, 1), 0x7FF0000000000000L);
        Check.same("3 by 1, a float", writtenFloat(3, 1), 0x40C00000);
        Check.same("least float by 22", writtenFloat(LEAST_FLOAT, 22), 0x00400000);
        Check.same("least float by 23", writtenFloat(LEAST_FLOAT, 23), 0x00800000);
        Check.same("least float by 276", writtenFloat(LEAST_FLOAT, 276), 0x7F000000);
        Check.same("least float by 277", writtenFloat(LEAST_FLOAT, 277), 0x7F800000);
        Check.same("1 by 127, a float", writtenFloat(1, 127), 0x7F000000);
        Check.same("-1 by 128, a float", writtenFloat(-1, 128), 0xFF800000L);
    }

    private static void scaledDown() {
        Check.sentence("SCALE", "or by 0.5 (s below 0)");
        Check.same("3 by -1", written(3, -1), 0x3FF8000000000000L);
        Check.same("1 by -1022", written(1, -1022), 0x0010000000000000L);
        Check.same("1 by -1023", written(1, -1023), 0x0008000000000000L);
        Check.same("1 by -1074", written(1, -1074), 1);
        Check.same("1 by -1075", written(1, -1075), 0);
        Check.same("infinite by -2200", written(-INFINITE, -2200), 0xFFF0000000000000L);
        Check.same("3 by -1, a float", writtenFloat(3, -1), 0x3FC00000);
        Check.same("1 by -126, a float", writtenFloat(1, -126), 0x00800000);
        Check.same("1 by -127, a float", writtenFloat(1, -127), 0x00400000);
        Check.same("1 by -149, a float", writtenFloat(1, -149), 1);
        Check.same("1 by -150, a float", writtenFloat(1, -150), 0);
        Check.same("infinite by -300, a float", writtenFloat(-INFINITE_FLOAT, -300), 0xFF800000L);
    }

    private static void roundedEachTime() {
        Check.sentence("SCALE", "one after another, each time rounded as the type does");
        // Half of an odd M rounds to the even one: 11 to 6 (not 5.5), 6 to 3, 3 to 2, 2 to 1, 1 to 0.
        long[] doubles = {11, 6, 3, 2, 1, 0};
        for (int i = 0; i < doubles.length; i++) {
            Check.same("11 times the least double, by " + -i, written(11 * LEAST, -i), doubles[i]);
            Check.same("11 times the least float, by " + -i, writtenFloat(11 * LEAST_FLOAT, -i), doubles[i]);
        }
        // 9 goes down to 4; once rounded and not in steps, 11 by -3 would be 1.
        Check.same("9 times the least double, by -1", written(9 * LEAST, -1), 4);
        Check.same("5 times the least float, by -1", writtenFloat(5 * LEAST_FLOAT, -1), 2);
        Check.same("largest below normal, by -1", written(LARGEST_BELOW_NORMAL, -1), 0x0008000000000000L);
        Check.same("largest below normal, a float, by -1", writtenFloat(LARGEST_BELOW_NORMAL_FLOAT, -1), 0x00400000);
        Check.same("a float has no bits of a double", writtenFloat(1.25f, -149), 1);
    }

    private static void zeroHasNoBits() {
        Check.sentence("FLOATING VALUES", "A value that is 0 is written with all bits 0");
        Check.same("0", written(0.0, 0), 0);
        Check.same("-0", written(-0.0, 0), 0);
        Check.same("-0 by 2200", written(-0.0, 2200), 0);
        Check.same("-0 by -2200", written(-0.0, -2200), 0);
        Check.same("what gets 0 below 0", written(-LEAST, -1), 0);
        Check.same("0, a float", writtenFloat(0.0f, 0), 0);
        Check.same("-0, a float", writtenFloat(-0.0f, 0), 0);
        Check.same("-0 by 300, a float", writtenFloat(-0.0f, 300), 0);
        Check.same("-0 by -300, a float", writtenFloat(-0.0f, -300), 0);
        Check.same("what gets 0 below 0, a float", writtenFloat(-LEAST_FLOAT, -1), 0);
    }

    private static void floatScaleLimits() {
        Check.sentence("Promise 5", "SCALED by -300 .. 300 (else IllegalArgumentException)");
        WireData data = new WireData();
        Check.same("300", data.writeFloat(LEAST_FLOAT, 300), 4);
        Check.same("-300", data.writeFloat(LARGEST_FLOAT, -300), 4);
        for (int scale : new int[] {301, -301, 2200, -2200, Integer.MIN_VALUE, Integer.MAX_VALUE}) {
            Check.refused("scale " + scale, ARGUMENT, () -> data.writeFloat(1, scale));
        }
        Check.refused("0 by 301", ARGUMENT, () -> data.writeFloat(0, 301));
        Check.logFrom("infinite, and 0", data, 0, 0x7F, 0x80, 0, 0, 0, 0, 0, 0);
    }

    private static void doubleScaleLimits() {
        Check.sentence("Promise 6", "SCALED by -2200 .. 2200 (else IllegalArgumentException)");
        WireData data = new WireData();
        Check.same("2200", data.writeDouble(LEAST, 2200), 8);
        Check.same("-2200", data.writeDouble(LARGEST, -2200), 8);
        for (int scale : new int[] {2201, -2201, Integer.MIN_VALUE, Integer.MAX_VALUE}) {
            Check.refused("scale " + scale, ARGUMENT, () -> data.writeDouble(1, scale));
        }
        Check.refused("0 by 2201", ARGUMENT, () -> data.writeDouble(0, 2201));
        Check.logFrom("infinite, and 0", data, 0, 0x7F, 0xF0, 0, 0, 0, 0, 0, 0, 0, 0, 0, 0, 0, 0, 0, 0);
    }

    private static void writingAnswersItsSize() {
        Check.sentence("Promises 5 and 6", "Answers 4, and Answers 8");
        WireData data = new WireData();
        data.blocks(true);
        Check.same("float in block mode", data.writeFloat(1, 0), 4);
        Check.same("double in block mode", data.writeDouble(1, 0), 8);
        Check.states("in block mode", data, 0, 12);
        data.blocks(false);
        Check.same("float", data.writeFloat(0, 0), 4);
        Check.same("double", data.writeDouble(0, 0), 8);
        Check.states("plain", data, 26, 0);
    }

    private static void tooFewBytes() {
        Check.sentence("Promises 11 and 12", "Reads four bytes of data, and eight: NoSuchElementException");
        for (int count = 0; count < 8; count++) {
            WireData data = Bytes.log(Bytes.repeated(count, 1));
            Check.refused("double of " + count, ELEMENT, data::readDouble);
            if (count < 4) {
                Check.refused("float of " + count, ELEMENT, data::readFloat);
            }
            Check.same("PLACE", data.state(2), 0);
        }
        WireData enough = Bytes.log(0, 0, 0, 0, 0, 0, 0, 0, 0, 0, 0, 0);
        Check.same("float of four", enough.readFloat(), 0);
        Check.same("PLACE behind four", enough.state(2), 4);
        Check.same("double of eight", enough.readDouble(), 0);
        Check.same("PLACE behind eight", enough.state(2), 12);
    }

    private static void corruptBytes() {
        Check.sentence("Promises 11 and 12", "CORRUPT is met before that: IllegalStateException");
        WireData cut = Bytes.blocks(0x77, 3, 1, 2, 3, 0x6F);
        Check.refused("float", STATE, cut::readFloat);
        Check.refused("double", STATE, cut::readDouble);
        Check.states("neither", cut, 6, 0, 0, 0, 0, 0);
        WireData whole = Bytes.blocks(0x77, 4, 0x3F, 0x80, 0, 0, 0x6F);
        Check.same("float before CORRUPT", whole.readFloat(), 1);
        Check.refused("float at CORRUPT", STATE, whole::readFloat);
        WireData eight = Bytes.blocks(0x77, 8, 0x3F, 0xF0, 0, 0, 0, 0, 0, 0, 0x6F);
        Check.same("double before CORRUPT", eight.readDouble(), 1);
        Check.refused("double at CORRUPT", STATE, eight::readDouble);
    }

    private static void valuesOverBlocks() {
        Check.sentence("Promises 11 and 12", "Reads four bytes of data, and eight: the data of several blocks");
        WireData data = Bytes.blocks(0x77, 1, 0xBF, 0x79, 0x7A, 0, 0, 0, 4, 0x80, 0, 0, 0x3F,
                0x77, 0, 0x77, 8, 0xF8, 0, 0, 0, 0, 0, 0, 9);
        Check.same("a float of two blocks", data.readFloat(), -1);
        Check.states("a float of two blocks", data, 25, 0, 12, 1, 1, 0);
        Check.same("a double of two blocks", data.readDouble(), 1.5);
        Check.states("a double of two blocks", data, 25, 0, 24, 1, 1, 0);
    }

    private static void noNumberAnswersZero() {
        Check.sentence("Promises 11 and 12", "NO NUMBER: answers 0 (see state)");
        WireData data = new WireData();
        data.raw(0xFFC00000L, 4);
        data.raw(0xFFF8000000000000L, 8);
        Check.same("float", data.readFloat(), 0);
        Check.states("its bytes are passed", data, 12, 0, 4, 0, 0, 1);
        Check.same("double", data.readDouble(), 0);
        Check.states("its bytes are passed", data, 12, 0, 12, 0, 0, 1);
    }
}

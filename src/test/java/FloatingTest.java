import java.util.NoSuchElementException;

/** Promises 5, 6, 11 and 12: floating values, by the bits that Java itself gives them. */
public final class FloatingTest {
    private static final Class<IllegalArgumentException> ARGUMENT = IllegalArgumentException.class;

    public static void main(String[] args) {
        writtenDoubles();
        writtenFloats();
        scaledDoubles();
        scaledFloats();
        stepwiseRounding();
        scaleLimits();
        readDoubles();
        readFloats();
        everyExponent();
        noNumber();
        writtenNoNumber();
        inBlocks();
        dataEnd();
        Check.finish();
    }

    private static double[] doubles() {
        return new double[] {1, -1, 1.5, 0.1, -0.1, 1e300, -1e-300, Math.PI, Double.MAX_VALUE, -Double.MAX_VALUE,
            Double.MIN_VALUE, -Double.MIN_VALUE, Double.MIN_NORMAL, Math.nextDown(Double.MIN_NORMAL), 2, 3,
            Math.nextDown(1.0), Math.nextUp(1.0), Math.nextDown(2.0), 4503599627370497.0, Double.POSITIVE_INFINITY,
            Double.NEGATIVE_INFINITY, 1e-310, 0.0};
    }

    private static float[] floats() {
        return new float[] {1, -1, 1.5f, 0.1f, -0.1f, 1e30f, -1e-30f, (float) Math.PI, Float.MAX_VALUE,
            -Float.MAX_VALUE, Float.MIN_VALUE, -Float.MIN_VALUE, Float.MIN_NORMAL, Math.nextDown(Float.MIN_NORMAL),
            Math.nextDown(1.0f), Math.nextUp(1.0f), Math.nextDown(2.0f), 8388609f, Float.POSITIVE_INFINITY,
            Float.NEGATIVE_INFINITY, 1e-40f, 0.0f};
    }

    private static void writtenDoubles() {
        for (double value : doubles()) {
            WireData data = new WireData();
            Check.same("promise 6: " + value, data.writeDouble(value, 0), 8);
            Check.same("promise 6: length", data.state(0), 8);
            Check.same("promise 6: bits of " + value, data.read(5), Double.doubleToLongBits(value));
        }
        Check.same("promise 6: -0.0", bitsOf(-0.0, 0), 0);
    }

    private static void writtenFloats() {
        for (float value : floats()) {
            WireData data = new WireData();
            Check.same("promise 5: " + value, data.writeFloat(value, 0), 4);
            Check.same("promise 5: length", data.state(0), 4);
            Check.same("promise 5: bits of " + value, data.read(4), Float.floatToIntBits(value));
        }
        Check.same("promise 5: -0.0f", bitsOf(-0.0f, 0), 0);
    }

    private static void scaledDoubles() {
        int[] scales = {1, -1, 52, -52, 1023, 1024, -1022, -1023, -1074, -1075, 2098, -2098, 2200, -2200};
        for (double value : doubles()) {
            for (int scale : scales) {
                double due = value;
                for (int i = 0; i < Math.abs(scale); i++) {
                    due = scale > 0 ? due * 2 : due * 0.5;
                }
                long bits = due == 0 ? 0 : Double.doubleToLongBits(due);
                Check.same("promise 6: " + value + " by " + scale, bitsOf(value, scale), bits);
            }
        }
    }

    private static void scaledFloats() {
        int[] scales = {1, -1, 23, -23, 127, 128, -126, -127, -149, -150, 277, -277, 300, -300};
        for (float value : floats()) {
            for (int scale : scales) {
                float due = value;
                for (int i = 0; i < Math.abs(scale); i++) {
                    due = scale > 0 ? due * 2 : due * 0.5f;
                }
                int bits = due == 0 ? 0 : Float.floatToIntBits(due);
                Check.same("promise 5: " + value + " by " + scale, bitsOf(value, scale), bits);
            }
        }
    }

    private static void stepwiseRounding() {
        // Rounded only once, 1.375 of the least value would be 1; in steps it rises to 1.5, then to 2.
        Check.same("promise 6: 1.125 by -1074", bitsOf(1.125, -1074), 1);
        Check.same("promise 6: 1.375 by -1074", bitsOf(1.375, -1074), 2);
        Check.same("promise 6: 0.5 by -1074", bitsOf(0.5, -1074), 0);
        Check.same("promise 6: below 0 to 0", bitsOf(-0.5, -1074), 0);
        Check.same("promise 5: 1.375 by -149", bitsOf(1.375f, -149), 2);
        Check.same("promise 5: a float rounds as a float", bitsOf(1.25f, -149), 1);
        Check.same("promise 5: below 0 to 0", bitsOf(-0.5f, -149), 0);
        Check.same("promise 5: infinite", bitsOf(-1f, 128), Float.floatToIntBits(Float.NEGATIVE_INFINITY));
        Check.same("promise 6: infinite", bitsOf(1.0, 1024), 0x7FF0000000000000L);
    }

    private static void scaleLimits() {
        WireData data = new WireData();
        for (int scale : new int[] {301, -301, Integer.MIN_VALUE, Integer.MAX_VALUE}) {
            Check.refused("promise 5: scale " + scale, ARGUMENT, () -> data.writeFloat(1, scale));
        }
        for (int scale : new int[] {2201, -2201, Integer.MIN_VALUE, Integer.MAX_VALUE}) {
            Check.refused("promise 6: scale " + scale, ARGUMENT, () -> data.writeDouble(1, scale));
        }
        Check.same("promises 5 and 6: refusals write nothing", data.state(0), 0);
        Bytes.fill(data, 1500);
        Check.refused("promise 5: the range is tested before FULL", ARGUMENT, () -> data.writeFloat(1, 301));
        Check.refused("promise 6: the range is tested before FULL", ARGUMENT, () -> data.writeDouble(1, 2201));
    }

    private static void readDoubles() {
        for (double value : doubles()) {
            WireData data = new WireData();
            data.raw(Double.doubleToLongBits(value), 8);
            Check.same("promise 12: " + value, data.readDouble(), value);
            Check.states("promise 12: " + value, data, 8, 0, 8, 0, 0, 0);
        }
        WireData zero = new WireData();
        zero.raw(Long.MIN_VALUE, 8);
        Check.same("promise 12: 0 with its sign", zero.readDouble(), 0.0);
    }

    private static void readFloats() {
        for (float value : floats()) {
            WireData data = new WireData();
            data.raw(Float.floatToIntBits(value), 4);
            Check.same("promise 11: " + value, data.readFloat(), value);
            Check.states("promise 11: " + value, data, 4, 0, 4, 0, 0, 0);
        }
    }

    private static void everyExponent() {
        for (long exponent = 0; exponent < 2047; exponent++) {
            long bits = exponent << 52 | 0x8000F0F0F0F0FL | (exponent & 1) << 63;
            WireData data = new WireData();
            data.raw(bits, 8);
            double value = data.readDouble();
            Check.same("promise 12: bits " + bits, value, Double.longBitsToDouble(bits));
            Check.same("promise 6: bits " + bits, bitsOf(value, 0), bits);
        }
        for (int exponent = 0; exponent < 255; exponent++) {
            int bits = exponent << 23 | 0x40F0F1 | (exponent & 1) << 31;
            WireData data = new WireData();
            data.raw(bits, 4);
            float value = data.readFloat();
            Check.same("promise 11: bits " + bits, value, Float.intBitsToFloat(bits));
            Check.same("promise 5: bits " + bits, bitsOf(value, 0), bits);
        }
    }

    private static void noNumber() {
        WireData data = new WireData();
        data.raw(0x7F800001L, 4);
        data.raw(0xFFC00000L, 4);
        data.raw(0x7F800000L, 4);
        data.raw(0xFFF0000000000001L, 8);
        data.raw(0x7FF8000000000000L, 8);
        data.raw(0x3F, 1);
        Check.same("promise 11: NO NUMBER", data.readFloat(), 0);
        Check.same("promise 19: met", data.state(5), 1);
        Check.same("promise 11: NO NUMBER with a sign", data.readFloat(), 0);
        Check.same("promise 11: infinite", data.readFloat(), Float.POSITIVE_INFINITY);
        Check.same("promise 19: not met", data.state(5), 0);
        Check.same("promise 12: NO NUMBER with a sign", data.readDouble(), 0);
        Check.same("promise 19: met by a double", data.state(5), 1);
        Check.same("promise 12: NO NUMBER", data.readDouble(), 0);
        Check.refused("promise 11: data end", NoSuchElementException.class, data::readFloat);
        Check.same("promise 19: a call that threw does not count", data.state(5), 1);
        Check.same("promise 10: read of the last byte", data.read(1), 0x3F);
        Check.same("promise 19: read does not count", data.state(5), 1);
        data.rewind();
        Check.same("promise 19: rewind does not count", data.state(5), 1);
    }

    private static void writtenNoNumber() {
        // The document names no bits for it, but what is no number can only be written as NO NUMBER.
        WireData data = new WireData();
        Check.same("promise 5: no number", data.writeFloat(Float.NaN, 1), 4);
        Check.same("promise 6: no number", data.writeDouble(Double.NaN, -1), 8);
        data.readFloat();
        Check.same("promise 5: NO NUMBER is met", data.state(5), 1);
        Check.same("promise 12: answers 0", data.readDouble(), 0);
        Check.same("promise 6: NO NUMBER is met", data.state(5), 1);
    }

    private static void inBlocks() {
        WireData data = new WireData();
        data.blocks(true);
        data.writeFloat(-2.5f, 0);
        data.flush();
        data.writeDouble(0.1, 0);
        data.blocks(false);
        Check.same("promises 5 and 6: length of both blocks", data.state(0), 16);
        data.readBlocks(true);
        Check.same("promise 11: in a block", data.readFloat(), -2.5f);
        Check.same("promise 12: in a block", data.readDouble(), 0.1);
        WireData parts = Bytes.blocks(0x77, 1, 0x40, 0x79, 0x77, 0, 0x7A, 0, 0, 0, 9, 0, 0, 0, 0x41);
        Check.same("promise 11: over blocks", parts.readFloat(), 2f);
        Check.states("promise 11: over blocks", parts, 15, 0, 14, 6, 1, 0);
    }

    private static void dataEnd() {
        WireData data = Bytes.log(1, 2, 3, 4, 5, 6, 7);
        Check.refused("promise 12: seven bytes", NoSuchElementException.class, data::readDouble);
        data.skip(4);
        Check.refused("promise 11: three bytes", NoSuchElementException.class, data::readFloat);
        Check.same("promises 11 and 12: PLACE stays", data.state(2), 4);
        WireData corrupt = Bytes.blocks(0x77, 2, 1, 2, 0x10);
        Check.refused("promise 11: corrupt", IllegalStateException.class, corrupt::readFloat);
        Check.refused("promise 12: corrupt", IllegalStateException.class, corrupt::readDouble);
        Check.states("promises 11 and 12: nothing is changed", corrupt, 5, 0, 0, 0, 0, 0);
    }

    private static long bitsOf(double value, int scale) {
        WireData data = new WireData();
        data.writeDouble(value, scale);
        return data.read(5);
    }

    private static long bitsOf(float value, int scale) {
        WireData data = new WireData();
        data.writeFloat(value, scale);
        return data.read(4);
    }
}

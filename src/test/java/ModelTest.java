/** All promises: runs of mixed calls, in which program and model answer alike. */
public final class ModelTest {
    private static final int RUNS = 12000;

    // An object is promised to work for 512 calls: 257 of a run, 16 times 6 states, 40 codes, 118 bytes.
    private static final int CALLS = 256;
    private static final int CALLS_BETWEEN_STATES = 16;
    private static final int BYTES = 118;

    private static final int[] EDGES = {-1, 0, 1, 2, 5, 6, 8, 9, 39, 40, 41, 255, 256, 1500, 1501};
    private static final double[] VALUES = {0, 1, -1, 0.1, -1.375, 1e10, 5.5, Double.MIN_VALUE, Float.MIN_VALUE,
        Float.MAX_VALUE, -1e300, Double.POSITIVE_INFINITY};

    // Headers, marks, texts and values without a number, whole, cut or malformed, and how many bytes of each.
    private static final long[] RAW = {0x79, 0x7700, 0x7701, 0x7703, 0x7A00000000L, 0x7A00000002L, 0x7AFFFFFFFFL,
        0x70, 0x7E, 0x7F, 0x6F, 0x0002, 0xC080, 0xE28282, 0x000141, 0x0003E28282L, 0x7F800001L, 0x7FF0000000000001L,
        0x77, 0x7A00, 0x000280, 0x0001F0, 0x0002C341L, 0};
    private static final int[] RAW_SIZES = {1, 2, 2, 2, 5, 5, 5, 1, 1, 1, 1, 2, 2, 3, 3, 5, 4, 8, 1, 2, 3, 3, 4, 8};

    private final WireData data = new WireData();
    private final Model model = new Model();
    private final int run;
    private long seed;

    private ModelTest(int run) {
        this.run = run;
        this.seed = run;
        data.blocks(isLongBlockRun());
        model.blocks(isLongBlockRun());
    }

    public static void main(String[] args) {
        for (int run = 0; run < RUNS; run++) {
            ModelTest test = new ModelTest(run);
            for (int i = 0; i < CALLS; i++) {
                test.step(i);
                if (i % CALLS_BETWEEN_STATES == CALLS_BETWEEN_STATES - 1) {
                    test.compareStates(i);
                }
            }
            test.compareCodes();
            test.compareBytes();
        }
        Check.finish();
    }

    /** The same numbers each time, so that a run that fails can be run again. */
    private int below(int bound) {
        seed = seed * 6364136223846793005L + 1442695040888963407L;
        return (int) ((seed >>> 33) % bound);
    }

    private boolean isLongBlockRun() {
        return run % 4 == 3;
    }

    /** A fourth of the runs fills the log soon, one mixes all calls, one reads odd bytes, one makes long blocks. */
    private int pick() {
        int dice = below(100);
        if (isLongBlockRun()) {
            return dice < 98 ? below(5) : below(16);
        }
        if (run % 4 == 0) {
            return dice < 60 ? below(6) : below(16);
        }
        if (run % 4 == 1) {
            return below(16);
        }
        return dice < 25 ? 6 : 7 + below(9);
    }

    private int near(int from, int to) {
        return below(10) == 0 ? EDGES[below(EDGES.length)] : from + below(to - from + 1);
    }

    private int anyCode() {
        int dice = below(4);
        return dice == 0 ? below(130) : dice == 1 ? below(2050) : near(0, 65535);
    }

    private int argument(int call) {
        switch (call) {
            case 1: return near(-300, 300);
            case 2: return near(-2200, 2200);
            case 3: return near(0, 39);
            case 4: return near(0, 40);
            case 6: return below(RAW.length);
            case 13: return below(3) == 0 ? near(0, 1500) : near(0, 9);
            default: return near(0, 5);
        }
    }

    private void step(int number) {
        int call = pick();
        int a = argument(call);
        long b = call == 3 ? anyCode() : (long) below(1 << 30) << 32 ^ (long) below(1 << 30) << 3 ^ -(long) below(8);
        double value = VALUES[below(VALUES.length)];
        String due = due(call, a, b, value);
        String got = got(call, a, b, value);
        String what = due.equals(got) ? "" : "run " + run + ", call " + number + ", of sort " + call
                + "(" + a + ", " + b + ", " + value + ")";
        Check.same(what, got, due);
    }

    private String due(int call, int a, long b, double value) {
        int[] saved = model.position.clone();
        try {
            return String.valueOf(callModel(call, a, b, value));
        } catch (RuntimeException e) {
            model.position = saved;
            return e.getClass().getSimpleName();
        }
    }

    private String got(int call, int a, long b, double value) {
        try {
            return String.valueOf(callProgram(call, a, b, value));
        } catch (RuntimeException e) {
            return e.getClass().getSimpleName();
        }
    }

    private Object callModel(int call, int a, long b, double value) {
        switch (call) {
            case 0: return model.write(a, b);
            case 1: return model.writeFloat((float) value, a);
            case 2: return model.writeDouble(value, a);
            case 3: return model.put(a, (int) b);
            case 4: return model.writeText(a);
            case 5: return model.blocks(a > 1);
            case 6: return model.raw(RAW[a], RAW_SIZES[a]);
            case 7: return model.blocks(false);
            case 8: return model.read(a);
            // The sign of a 0 is left open.
            case 9: return 0.0 + model.readFloat();
            case 10: return 0.0 + model.readDouble();
            case 11: return model.readText();
            case 12: return model.readBlocks(a > 1);
            case 13: return model.skip(a);
            case 14: return a == 0 ? model.rewind() : model.state(a);
            default: return model.flush();
        }
    }

    private Object callProgram(int call, int a, long b, double value) {
        switch (call) {
            case 0: return data.write(a, b);
            case 1: return data.writeFloat((float) value, a);
            case 2: return data.writeDouble(value, a);
            case 3: return data.put(a, (int) b);
            case 4: return data.writeText(a);
            case 5: return data.blocks(a > 1);
            case 6: return data.raw(RAW[a], RAW_SIZES[a]);
            case 7: return data.blocks(false);
            case 8: return data.read(a);
            case 9: return 0.0 + data.readFloat();
            case 10: return 0.0 + data.readDouble();
            case 11: return data.readText();
            case 12: return data.readBlocks(a > 1);
            case 13: return data.skip(a);
            case 14: return a == 0 ? data.rewind() : data.state(a);
            default: return data.flush();
        }
    }

    private void compareStates(int number) {
        for (int i = 0; i < 6; i++) {
            Check.same("run " + run + ", after call " + number + ", state(" + i + ")", data.state(i), model.state(i));
        }
    }

    private void compareCodes() {
        for (int i = 0; i < 40; i++) {
            Check.same("run " + run + ", code(" + i + ")", data.code(i), model.code(i));
        }
    }

    /** The last bytes, where the end is, and then any of the others. */
    private void compareBytes() {
        int length = model.state(0);
        for (int i = 0; i < BYTES; i++) {
            int place = i < BYTES / 2 ? length - i : below(length + 1) - 1;
            Check.same("run " + run + ", byteAt(" + place + ")", data.byteAt(place), model.byteAt(place));
        }
    }
}

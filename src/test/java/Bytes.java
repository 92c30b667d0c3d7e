/** Objects that hold given bytes in their log. */
final class Bytes {
    private Bytes() {
    }

    static WireData log(int... bytes) {
        WireData data = new WireData();
        add(data, bytes);
        return data;
    }

    /** As log, with reading in block mode. */
    static WireData blocks(int... bytes) {
        WireData data = log(bytes);
        data.readBlocks(true);
        return data;
    }

    static void add(WireData data, int... bytes) {
        for (int value : bytes) {
            data.raw(value, 1);
        }
    }

    static void fill(WireData data, int count) {
        for (int i = 0; i < count / 8; i++) {
            data.write(5, 0x0102030405060708L);
        }
        for (int i = 0; i < count % 8; i++) {
            data.write(1, 9);
        }
    }
}

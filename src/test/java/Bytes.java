/** Objects that hold given bytes in their log. */
final class Bytes {
    private Bytes() {
    }

    static WireData log(int... bytes) {
        WireData data = new WireData();
        add(data, bytes);
        return data;
    }

    /** As log, with reading in block mode. */
    static WireData blocks(int... bytes) {
        WireData data = log(bytes);
        data.readBlocks(true);
        return data;
    }

    /** In as few calls as may be, since an object is promised to work for 512 only. */
    static void add(WireData data, int... bytes) {
        for (int from = 0; from < bytes.length; from += 8) {
            int count = Math.min(8, bytes.length - from);
            long packed = 0;
            for (int i = from; i < from + count; i++) {
                packed = packed << 8 | bytes[i];
            }
            data.raw(packed, count);
        }
    }

    /** A log that holds a text of these bytes, whole. */
    static WireData text(int... bytes) {
        return text(bytes.length, bytes);
    }

    /** A log that holds the number of bytes of a text, true or not, and these bytes. */
    static WireData text(int number, int[] bytes) {
        WireData data = new WireData();
        data.raw(number, 2);
        add(data, bytes);
        return data;
    }

    static int[] repeated(int times, int... bytes) {
        int[] all = new int[times * bytes.length];
        for (int i = 0; i < all.length; i++) {
            all[i] = bytes[i % bytes.length];
        }
        return all;
    }

    static void fill(WireData data, int count) {
        for (int i = 0; i < count / 8; i++) {
            data.write(5, 0x0102030405060708L);
        }
        for (int i = 0; i < count % 8; i++) {
            data.write(1, 9);
        }
    }
}

/** Two objects with one past: a refused call on the first must leave it as the second, on which it is not made. */
final class Twins {
    interface Past {
        void of(WireData data);
    }

    interface Call {
        double on(WireData data);
    }

    // What no call tells at once (the modes, the pending bytes) shows in what these calls answer then.
    private static final Call[] LATER = {
        data -> data.read(0), data -> data.skip(2), data -> data.readBlocks(false), data -> data.readBlocks(true),
        data -> data.read(1), data -> data.readText(), data -> data.write(1, 0x55), data -> data.raw(0x66, 1),
        data -> data.flush(), data -> data.blocks(true), data -> data.write(2, 0x7788), data -> data.blocks(false),
        data -> data.writeText(2), data -> data.rewind(), data -> data.readFloat(), data -> data.readDouble()};

    private final String name;
    private final Past past;

    Twins(String name, Past past) {
        this.name = name;
        this.past = past;
    }

    void throwing(String what, Class<? extends RuntimeException> due, Call call) {
        compare(what, due.getSimpleName(), call);
    }

    void full(String what, Call call) {
        compare(what, String.valueOf((double) WireData.FULL), call);
    }

    private void compare(String what, String due, Call call) {
        String where = name + ", " + what;
        WireData tried = new WireData();
        WireData spared = new WireData();
        past.of(tried);
        past.of(spared);
        Check.same(where, answer(tried, call), due);
        Check.same(where + ": what is seen then", seen(tried), seen(spared));
        for (int i = 0; i < LATER.length; i++) {
            Check.same(where + ": later call " + i, answer(tried, LATER[i]), answer(spared, LATER[i]));
        }
        Check.same(where + ": what is seen later", seen(tried), seen(spared));
    }

    private static String answer(WireData data, Call call) {
        try {
            return String.valueOf(call.on(data));
        } catch (RuntimeException e) {
            return e.getClass().getSimpleName();
        }
    }

    private static String seen(WireData data) {
        StringBuilder text = new StringBuilder("states");
        for (int what = 0; what < 6; what++) {
            text.append(' ').append(data.state(what));
        }
        text.append(", codes");
        for (int place = 0; place < 40; place++) {
            text.append(' ').append(data.code(place));
        }
        // Not the whole of a long log: an object is promised to work for 512 calls only.
        text.append(", bytes");
        int length = data.state(0);
        for (int place = Math.max(0, length - 40); place <= length; place++) {
            text.append(' ').append(data.byteAt(place));
        }
        return text.toString();
    }
}

/** The example of README.md, with the answers that it tells. */
public final class ExampleTest {
    public static void main(String[] args) {
        WireData data = new WireData();
        Check.same("blocks(true)", data.blocks(true), 0);
        Check.same("write(4, -2)", data.write(4, -2), 4);
        Check.same("writeDouble(1.5, 0)", data.writeDouble(1.5, 0), 8);
        Check.same("put(0, 'A')", data.put(0, 'A'), 'A');
        Check.same("writeText(1)", data.writeText(1), 3);
        Check.same("blocks(false)", data.blocks(false), 17);

        Check.same("readBlocks(true)", data.readBlocks(true), 0);
        Check.same("read(4)", data.read(4), -2);
        Check.same("readDouble()", data.readDouble(), 1.5);
        Check.same("readText()", data.readText(), 1);
        Check.same("code(0)", data.code(0), 'A');
        Check.finish();
    }
}

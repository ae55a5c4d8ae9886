/** The example of README.md answers what is told there. */
public final class ReadmeTest {
    public static void main(String[] args) {
        DeviceFind x = new DeviceFind(2);
        String text = "input poly = 0; input diff = 1; make gate = poly and diff; wire poly; device n = gate pins poly;";
        for (char c : text.toCharArray()) {
            Check.due("unit(" + c + ")", 1, () -> x.unit(c));
        }
        Check.due("read()", 1, x::read);
        draw(x, 0, 6, 2, 8, 2, 8, 12, 6, 12);
        draw(x, 1, 2, 4, 20, 4, 20, 10, 2, 10);
        Check.due("text(0, 6, 2, 7)", 1, () -> x.text(0, 6, 2, 7));

        Check.due("run()", 1, x::run);
        Check.due("device(0, 3)", 6, () -> x.device(0, 3));
        Check.due("device(0, 4)", 4, () -> x.device(0, 4));
        Check.due("size(0, 0)", 12, () -> x.size(0, 0));
        Check.due("pin(0, 0)", 0, () -> x.pin(0, 0));
        Check.due("named(0)", 7, () -> x.named(0));
        Check.end();
    }

    private static void draw(DeviceFind x, int input, int... corners) {
        Check.due("polygon(" + input + ")", input, () -> x.polygon(input));
        for (int k = 0; k < corners.length; k += 2) {
            int column = corners[k];
            int row = corners[k + 1];
            Check.due("corner", 1, () -> x.corner(input, column, row));
        }
    }
}

/** Promises 5 to 7: polygon, corner and text, and the squares that polygons have. */
public final class LayoutTest {
    private static final String BOUNDS = "throws.IndexOutOfBoundsException";
    private static final String STATE = "throws.IllegalStateException";
    private static final String ARGUMENT = "throws.IllegalArgumentException";

    public static void main(String[] args) {
        polygons();
        corners();
        sixteenCorners();
        openPolygons();
        squaresOfPolygons();
        inputsHaveAllPolygons();
        texts();
        fortyTexts();
        changes();
        Check.end();
    }

    private static void polygons() {
        DeviceFind x = new DeviceFind(2);
        Check.due("polygon(-1)", BOUNDS, () -> x.polygon(-1));
        Check.due("polygon(2)", BOUNDS, () -> x.polygon(2));
        Check.due("polygon(MAX)", BOUNDS, () -> x.polygon(Integer.MAX_VALUE));
        Check.due("no polygons", 0, () -> x.count(6));
        for (int k = 0; k < 60; k++) {
            int input = k % 2;
            Check.due("polygon", k, () -> x.polygon(input));
            Check.due("polygons", k + 1, () -> x.count(6));
        }
        Check.due("the 61st polygon", STATE, () -> x.polygon(0));
        Check.due("the 61st polygon of no input", BOUNDS, () -> x.polygon(2));
        Check.due("polygons", 60, () -> x.count(6));
        Check.due("corner of the last one", 1, () -> x.corner(59, 0, 0));
        Check.due("corner of none", BOUNDS, () -> x.corner(60, 0, 0));
    }

    private static void corners() {
        DeviceFind x = new DeviceFind(1);
        Check.due("corner of no polygon", BOUNDS, () -> x.corner(0, 0, 0));
        x.polygon(0);
        Check.due("corner(-1)", BOUNDS, () -> x.corner(-1, 0, 0));
        Check.due("corner(1)", BOUNDS, () -> x.corner(1, 99, 99));
        long[] beyond = {-1, 65, Long.MIN_VALUE, Long.MAX_VALUE, 1L << 32, -(1L << 32)};
        for (long far : beyond) {
            Check.due("corner at x " + far, ARGUMENT, () -> x.corner(0, far, 0));
            Check.due("corner at y " + far, ARGUMENT, () -> x.corner(0, 0, far));
        }
        Check.due("the first corner", 1, () -> x.corner(0, 64, 0));
        Check.due("the same corner", 0, () -> x.corner(0, 64, 0));
        Check.due("a corner askew", 0, () -> x.corner(0, 63, 1));
        Check.due("a corner above", 1, () -> x.corner(0, 64, 64));
        Check.due("a corner as the first one", 1, () -> x.corner(0, 64, 0));
        Check.due("a corner beside", 1, () -> x.corner(0, 0, 0));
        Check.due("a corner askew from the one before alone", 0, () -> x.corner(0, 64, 64));
    }

    private static void sixteenCorners() {
        DeviceFind x = new DeviceFind(1);
        x.polygon(0);
        for (int k = 0; k < 16; k++) {
            int at = k;
            Check.due("corner " + k, 1, () -> x.corner(0, at, 0));
        }
        Check.due("the 17th corner", STATE, () -> x.corner(0, 16, 0));
        Check.due("the 17th corner, the same again", STATE, () -> x.corner(0, 15, 0));
        Check.due("the 17th corner, beyond the plane", STATE, () -> x.corner(0, 65, 0));
        Check.due("the 17th corner of no polygon", BOUNDS, () -> x.corner(1, 65, 0));
        x.polygon(0);
        Check.due("the next polygon has room", 1, () -> x.corner(1, 3, 3));
    }

    /** An object whose one wire is input 0. */
    private static DeviceFind wired(int layers) {
        DeviceFind x = new DeviceFind(layers);
        Check.same("read", 0, Check.read(x, "input a=0;wire a;"));
        return x;
    }

    private static void filled(String want, int... corners) {
        DeviceFind x = wired(1);
        Check.polygon(x, 0, corners);
        x.run();
        int height = want.split(" ").length;
        Check.same("squares", want, Check.picture(x, 0, want.indexOf(' '), height));
    }

    private static void openPolygons() {
        filled("... ...");
        filled("... ...", 0, 0);
        filled("... ...", 0, 0, 2, 0);
        filled("... ...", 0, 0, 2, 0, 2, 2);
        filled("... ...", 0, 0, 2, 0, 2, 2, 1, 2);
        filled("... ...", 0, 0, 2, 0, 2, 2, 0, 2, 0, 0);
        filled("... ...", 0, 0, 2, 0, 1, 0);
        filled("... ... ...", 0, 0, 2, 0, 2, 2, 1, 2, 1, 1);
        filled("##. ##. ...", 0, 0, 2, 0, 2, 2, 0, 2);
    }

    private static void squaresOfPolygons() {
        filled("##. ##. ...", 2, 2, 0, 2, 0, 0, 2, 0);
        filled("##. ##. ...", 0, 0, 1, 0, 2, 0, 2, 1, 2, 2, 0, 2);
        filled("#.. ##. ...", 0, 0, 1, 0, 1, 1, 2, 1, 2, 2, 0, 2);
        // a side that goes back over itself has no squares
        filled("... ...", 0, 0, 2, 0, 2, 1, 2, 0);
        // two turns round the same squares leave none
        filled("... ... ...", 0, 0, 2, 0, 2, 2, 0, 2, 0, 0, 2, 0, 2, 2, 0, 2);
        // a ring that meets itself: the squares within both rounds are out
        filled("###. #.#. ###. ....", 0, 0, 3, 0, 3, 3, 0, 3, 0, 1, 1, 1, 1, 2, 2, 2, 2, 1, 0, 1);
        // two lobes that cross
        filled("##.. ##.. ..## ..##", 0, 0, 2, 0, 2, 4, 4, 4, 4, 2, 0, 2);
        DeviceFind edge = wired(1);
        Check.polygon(edge, 0, 63, 63, 64, 63, 64, 64, 63, 64);
        edge.run();
        Check.due("the last square", 0, () -> edge.net(0, 63, 63));
        Check.due("the one left of it", -1, () -> edge.net(0, 62, 63));
        Check.due("the one below it", -1, () -> edge.net(0, 63, 62));
    }

    private static void inputsHaveAllPolygons() {
        DeviceFind x = new DeviceFind(3);
        Check.rectangle(x, 2, 0, 0, 2, 2);
        Check.rectangle(x, 1, 5, 0, 1, 1);
        Check.rectangle(x, 2, 1, 1, 2, 2);
        Check.same("read", 0, Check.read(x, "input a=2;wire a;input b=2;wire b;"));
        x.run();
        Check.same("polygons of one input together", "##.... ###... .##...", Check.picture(x, 0, 6, 3));
        Check.due("two layers of one input", 1, () -> x.net(1, 2, 2));
    }

    private static void texts() {
        DeviceFind x = new DeviceFind(1);
        long[] beyond = {-1, 64, Long.MIN_VALUE, Long.MAX_VALUE, 1L << 32};
        for (long far : beyond) {
            Check.due("text at x " + far, BOUNDS, () -> x.text(0, far, 0, 0));
            Check.due("text at y " + far, BOUNDS, () -> x.text(0, 0, far, -1));
        }
        Check.due("text of wire -1", BOUNDS, () -> x.text(-1, 0, 0, 0));
        Check.due("text of wire 8", BOUNDS, () -> x.text(8, 0, 0, -1));
        Check.due("a name below 0", ARGUMENT, () -> x.text(0, 0, 0, -1));
        Check.due("a name below 0", ARGUMENT, () -> x.text(0, 0, 0, Integer.MIN_VALUE));
        Check.due("no texts", 0, () -> x.count(7));
        Check.due("a text without a wire", 1, () -> x.text(7, 63, 63, Integer.MAX_VALUE));
        Check.due("a text with name 0", 2, () -> x.text(0, 0, 0, 0));
        Check.due("texts", 2, () -> x.count(7));
    }

    private static void fortyTexts() {
        DeviceFind x = new DeviceFind(1);
        for (int k = 1; k <= 40; k++) {
            Check.due("text", k, () -> x.text(0, 1, 2, 3));
        }
        Check.due("the 41st text", STATE, () -> x.text(0, 0, 0, 0));
        Check.due("the 41st text with a name below 0", STATE, () -> x.text(0, 0, 0, -1));
        Check.due("the 41st text beyond the plane", BOUNDS, () -> x.text(0, 64, 0, 0));
        Check.due("texts", 40, () -> x.count(7));
    }

    /** Whether what was found is gone after a call. */
    private static void changes() {
        DeviceFind x = wired(1);
        Check.rectangle(x, 0, 0, 0, 2, 2);
        x.run();
        Check.due("a wrong text()", ARGUMENT, () -> x.text(0, 0, 0, -1));
        Check.due("a wrong polygon()", BOUNDS, () -> x.polygon(1));
        Check.due("a wrong corner()", ARGUMENT, () -> x.corner(0, 65, 0));
        Check.due("a corner that is not there", 0, () -> x.corner(0, 0, 2));
        Check.due("calls that change nothing", 1, () -> x.count(5));
        Check.due("calls that change nothing", 0, () -> x.net(0, 0, 0));
        x.unit('!');
        x.read();
        Check.due("a wrong read", 0, () -> x.net(0, 0, 0));
        x.polygon(0);
        Check.due("a new polygon", STATE, () -> x.net(0, 0, 0));
        Check.due("a new polygon", 0, () -> x.count(5));
        x.run();
        x.corner(1, 9, 9);
        Check.due("a new corner", STATE, () -> x.net(0, 0, 0));
        x.run();
        x.text(7, 0, 0, 1);
        Check.due("a new text", STATE, () -> x.net(0, 0, 0));
        x.run();
        Check.due("a run", 1, () -> x.count(5));
        Check.same("a right read", 0, Check.read(x, "input a=0;wire a;"));
        Check.due("a right read", STATE, () -> x.net(0, 0, 0));
        x.run();
        Check.due("polygons and texts outlast texts read", 0, () -> x.net(0, 0, 0));
        Check.due("polygons and texts outlast texts read", 2, () -> x.count(6));
        Check.due("polygons and texts outlast texts read", 1, () -> x.count(7));
    }
}

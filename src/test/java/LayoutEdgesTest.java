/** A test of its own for each boundary case of "1 LAYOUTS" and of the promises 1, 5, 6 and 7. */
public final class LayoutEdgesTest {
    private static final String BOUNDS = "throws.IndexOutOfBoundsException";
    private static final String STATE = "throws.IllegalStateException";
    private static final String ARGUMENT = "throws.IllegalArgumentException";

    public static void main(String[] args) {
        layouts();
        shapes();
        newObjects();
        polygonPromise();
        cornerPromise();
        textPromise();
        Check.end();
    }

    private static void layouts() {
        Check.sentence("THE PLANE has 64 times 64 SQUARES", LayoutEdgesTest::wholePlane);
        Check.sentence("x and y 0 .. 63", LayoutEdgesTest::outermostSquares);
        Check.sentence("INPUTS 0 .. layers - 1 have POLYGONS", LayoutEdgesTest::inputsOfPolygons);
        Check.sentence("POLYGONS, 60 in all", LayoutEdgesTest::sixtyPolygons);
        Check.sentence("numbered as they were made", LayoutEdgesTest::numbersOfPolygons);
        Check.sentence("with up to 16 corners", LayoutEdgesTest::sixteenCorners);
        Check.sentence("whole numbers 0 .. 64", LayoutEdgesTest::rangeOfCorners);
        Check.sentence("each of which differs from the one before in just one of x and y",
                LayoutEdgesTest::cornersDiffer);
        Check.sentence("OPEN, and has no squares, if it has fewer than four corners",
                LayoutEdgesTest::fewerThanFourCorners);
        Check.sentence("or the last one does not differ from the first one in just one",
                LayoutEdgesTest::lastAndFirstCorner);
        Check.sentence("met an odd number of times", LayoutEdgesTest::oddTimes);
        Check.sentence("going to greater x", LayoutEdgesTest::toGreaterX);
        Check.sentence("sides (.. and from the last one to the first one)", LayoutEdgesTest::lastSide);
        Check.sentence("An input has the squares of all its polygons", LayoutEdgesTest::allPolygonsOfAnInput);
    }

    private static void shapes() {
        Check.sentence("parts that hang together over edges of squares", LayoutEdgesTest::hangTogether);
        Check.sentence("at corners alone they do not", LayoutEdgesTest::cornersAlone);
        Check.sentence("from 0 on by their lowest row", LayoutEdgesTest::byLowestRow);
        Check.sentence("then by the leftmost square in that", LayoutEdgesTest::byLeftmostSquare);
        Check.sentence("Two shapes TOUCH if a square of one is one of the other", LayoutEdgesTest::touchWithin);
        Check.sentence("or beside one (with an edge in common)", LayoutEdgesTest::touchBeside);
    }

    private static void newObjects() {
        Check.sentence("So many inputs", LayoutEdgesTest::soManyInputs);
        Check.sentence("1, if they are below that", LayoutEdgesTest::fewestInputs);
        Check.sentence("65536, if above", LayoutEdgesTest::mostInputs);
        Check.sentence("no text read", LayoutEdgesTest::noTextRead);
    }

    private static void polygonPromise() {
        Check.sentence("A new polygon without corners", LayoutEdgesTest::withoutCorners);
        Check.sentence("polygon: IndexOutOfBoundsException", LayoutEdgesTest::noSuchInput);
        Check.sentence("polygon: IllegalStateException", LayoutEdgesTest::noMorePolygons);
        Check.sentence("polygon: the one named first when both would do", LayoutEdgesTest::polygonThrowsFirst);
    }

    private static void cornerPromise() {
        Check.sentence("One more corner: whether it differs from the one before in just one",
                LayoutEdgesTest::oneMoreCorner);
        Check.sentence("else it is not there", LayoutEdgesTest::cornerNotThere);
        Check.sentence("and nothing changes", LayoutEdgesTest::nothingChanges);
        Check.sentence("the first one always is", LayoutEdgesTest::firstCorner);
        Check.sentence("corner: IndexOutOfBoundsException", LayoutEdgesTest::noSuchPolygon);
        Check.sentence("corner: IllegalStateException: it has 16", LayoutEdgesTest::noMoreCorners);
        Check.sentence("corner: IllegalArgumentException: x or y is not 0 .. 64", LayoutEdgesTest::cornerBeyond);
        Check.sentence("corner: the one named first when several would do", LayoutEdgesTest::cornerThrowsFirst);
    }

    private static void textPromise() {
        Check.sentence("A text for a wire's number (0 .. 7", LayoutEdgesTest::wireNumbers);
        Check.sentence("also one that there is not)", LayoutEdgesTest::noSuchWire);
        Check.sentence("how many texts there are", LayoutEdgesTest::howManyTexts);
        Check.sentence("text: IndexOutOfBoundsException: the number", LayoutEdgesTest::noWireNumber);
        Check.sentence("text: IndexOutOfBoundsException: or the square", LayoutEdgesTest::noSquare);
        Check.sentence("text: IllegalStateException: there are 40", LayoutEdgesTest::noMoreTexts);
        Check.sentence("text: IllegalArgumentException: the name is below 0", LayoutEdgesTest::nameBelowZero);
        Check.sentence("text: the one named first when several would do", LayoutEdgesTest::textThrowsFirst);
    }

    /** An object whose one wire is input 0, and whose one kind has places on input 0. */
    private static DeviceFind plain(int layers) {
        return Check.reading(layers, 1, "input a=0;wire a;device d=a pins a;");
    }

    private static void filled(String want, int... corners) {
        DeviceFind x = plain(1);
        Check.polygon(x, 0, corners);
        x.run();
        Check.same("squares", want, Check.picture(x, 0, want.indexOf(' '), want.split(" ").length));
    }

    private static void wholePlane() {
        DeviceFind x = plain(1);
        Check.polygon(x, 0, 0, 0, 64, 0, 64, 64, 0, 64);
        Check.due("run", 1, x::run);
        Check.due("squares of the whole plane", 4096, () -> x.size(0, 0));
        Check.due("edges of the whole plane", 256, () -> x.size(0, 1));
    }

    private static void outermostSquares() {
        DeviceFind x = plain(1);
        int[] ends = {0, 63};
        for (int y : ends) {
            for (int column : ends) {
                Check.square(x, 0, column, y);
            }
        }
        Check.due("run", 4, x::run);
        for (int k = 0; k < 4; k++) {
            int net = k;
            Check.due("square at an end", net, () -> x.net(0, ends[net % 2], ends[net / 2]));
        }
        for (long beyond : new long[] {-1, 64}) {
            Check.due("square " + beyond + ", 0", BOUNDS, () -> x.net(0, beyond, 0));
            Check.due("square 0, " + beyond, BOUNDS, () -> x.net(0, 0, beyond));
        }
    }

    private static void inputsOfPolygons() {
        DeviceFind x = new DeviceFind(3);
        Check.due("polygon(0)", 0, () -> x.polygon(0));
        Check.due("polygon(2)", 1, () -> x.polygon(2));
        Check.due("polygon(3)", BOUNDS, () -> x.polygon(3));
        Check.due("polygon(-1)", BOUNDS, () -> x.polygon(-1));
    }

    private static void sixtyPolygons() {
        DeviceFind x = new DeviceFind(7);
        for (int k = 0; k < 59; k++) {
            x.polygon(k % 7);
        }
        Check.due("the 60th polygon", 59, () -> x.polygon(3));
        Check.due("the 61st polygon", STATE, () -> x.polygon(0));
        Check.due("the 61st polygon of an input with few", STATE, () -> x.polygon(6));
        Check.due("polygons", 60, () -> x.count(6));
    }

    private static void numbersOfPolygons() {
        DeviceFind x = new DeviceFind(2);
        Check.due("the first polygon", 0, () -> x.polygon(1));
        Check.due("the second polygon, of another input", 1, () -> x.polygon(0));
        Check.due("a polygon of no input", BOUNDS, () -> x.polygon(2));
        Check.due("has no number", 2, () -> x.polygon(1));
        Check.same("read", 0, Check.read(x, "input a=0;"));
        Check.due("numbers go on after read()", 3, () -> x.polygon(0));
    }

    /** A comb of seven teeth needs all of the corners, from the first to the last. */
    private static void sixteenCorners() {
        filled("#.#.#.# ####### .......", 0, 0, 1, 0, 1, 1, 2, 1, 2, 0, 3, 0, 3, 1, 4, 1, 4, 0, 5, 0, 5, 1, 6, 1,
                6, 0, 7, 0, 7, 2, 0, 2);
        DeviceFind x = plain(1);
        x.polygon(0);
        for (int k = 0; k < 15; k++) {
            x.corner(0, k, 0);
        }
        Check.due("the 16th corner", 1, () -> x.corner(0, 15, 0));
        Check.due("the 17th corner", STATE, () -> x.corner(0, 16, 0));
    }

    private static void rangeOfCorners() {
        DeviceFind x = new DeviceFind(1);
        x.polygon(0);
        int[][] outermost = {{0, 0}, {64, 0}, {64, 64}, {0, 64}};
        for (int[] c : outermost) {
            Check.due("corner " + c[0] + ", " + c[1], 1, () -> x.corner(0, c[0], c[1]));
        }
        Check.due("corner 0, 65", ARGUMENT, () -> x.corner(0, 0, 65));
        Check.due("corner 65, 64", ARGUMENT, () -> x.corner(0, 65, 64));
        Check.due("corner 0, -1", ARGUMENT, () -> x.corner(0, 0, -1));
        Check.due("corner -1, 64", ARGUMENT, () -> x.corner(0, -1, 64));
    }

    private static void cornersDiffer() {
        DeviceFind x = new DeviceFind(1);
        x.polygon(0);
        x.corner(0, 5, 5);
        Check.due("in none", 0, () -> x.corner(0, 5, 5));
        Check.due("in both", 0, () -> x.corner(0, 6, 6));
        Check.due("in x alone", 1, () -> x.corner(0, 6, 5));
        Check.due("in y alone", 1, () -> x.corner(0, 6, 6));
        Check.due("in the same way again", 1, () -> x.corner(0, 6, 7));
        Check.due("back again", 1, () -> x.corner(0, 6, 6));
        Check.due("from the first one alone in one", 0, () -> x.corner(0, 5, 9));
    }

    private static void fewerThanFourCorners() {
        filled("... ...");
        filled("... ...", 1, 0);
        filled("... ...", 1, 0, 1, 2);
        filled("... ...", 2, 0, 2, 2, 0, 2);
        filled("... ...", 2, 0, 2, 2, 2, 1);
        filled("##. ##.", 2, 0, 2, 2, 0, 2, 0, 0);
    }

    private static void lastAndFirstCorner() {
        filled("... ...", 2, 0, 2, 2, 0, 2, 0, 1);
        filled("... ...", 2, 0, 2, 2, 0, 2, 0, 0, 2, 0);
        filled("##. ##.", 2, 0, 2, 2, 0, 2, 0, 0, 1, 0);
        DeviceFind x = plain(1);
        Check.polygon(x, 0, 2, 0, 2, 2, 0, 2, 0, 0);
        String[] want = {"##. ##.", "##. ##.", "... ...", "#.. ##."};
        int[][] more = {{1, 0}, {1, 1}, {2, 1}};
        for (int k = 0; k < want.length; k++) {
            x.run();
            Check.same("squares with " + (4 + k) + " corners", want[k], Check.picture(x, 0, 3, 2));
            if (k < more.length) {
                x.corner(0, more[k][0], more[k][1]);
            }
        }
    }

    private static void oddTimes() {
        // once round, twice round and three times round
        filled("##. ##.", 0, 0, 2, 0, 2, 2, 0, 2);
        filled("... ...", 0, 0, 2, 0, 2, 2, 0, 2, 0, 0, 2, 0, 2, 2, 0, 2);
        filled("##. ##.", 0, 0, 2, 0, 2, 2, 0, 2, 0, 0, 2, 0, 2, 2, 0, 2, 0, 0, 2, 0, 2, 2, 0, 2);
        // what both rounds have is out
        filled("###. #..# ####", 0, 0, 3, 0, 3, 2, 1, 2, 1, 1, 4, 1, 4, 3, 0, 3);
    }

    private static void toGreaterX() {
        // a side is met from the squares left of it, also one at the plane's end
        filled("..# ..# ...", 2, 0, 64, 0, 64, 2, 2, 2);
        filled("##. ##. ...", 0, 0, 0, 2, 2, 2, 2, 0);
        DeviceFind x = plain(1);
        Check.polygon(x, 0, 63, 62, 64, 62, 64, 64, 63, 64);
        Check.polygon(x, 0, 0, 62, 1, 62, 1, 64, 0, 64);
        Check.due("run", 2, x::run);
        Check.due("the squares left of x = 1", 2, () -> x.size(0, 0));
        Check.due("the squares left of x = 64", 2, () -> x.size(1, 0));
        Check.due("the first one's place", 0, () -> x.device(0, 3));
        Check.due("the second one's place", 63, () -> x.device(1, 3));
    }

    private static void lastSide() {
        // the last side stands upright at the right, or at the left
        filled("##. ##. ...", 2, 2, 0, 2, 0, 0, 2, 0);
        filled("##. ##. ...", 0, 2, 2, 2, 2, 0, 0, 0);
    }

    private static void allPolygonsOfAnInput() {
        DeviceFind x = Check.reading(3, 0, "input a=2;wire a;input b=1;wire b;input c=2;wire c;");
        x.run();
        Check.same("an input without polygons", "... ...", Check.picture(x, 0, 3, 2));
        Check.rectangle(x, 2, 0, 0, 2, 1);
        Check.rectangle(x, 2, 1, 0, 2, 1);
        Check.polygon(x, 2, 0, 0, 0, 2, 9, 2);
        Check.rectangle(x, 1, 0, 1, 1, 1);
        x.run();
        Check.same("polygons that share squares, and an open one", "### ...", Check.picture(x, 0, 3, 2));
        Check.same("another input", "... #..", Check.picture(x, 1, 3, 2));
        Check.same("the same input once more", "### ...", Check.picture(x, 2, 3, 2));
    }

    private static void hangTogether() {
        DeviceFind x = plain(1);
        Check.square(x, 0, 4, 4);
        Check.square(x, 0, 5, 4);
        Check.square(x, 0, 5, 5);
        Check.square(x, 0, 5, 3);
        Check.due("squares of four polygons beside each other are one shape", 1, x::run);
        Check.square(x, 0, 7, 4);
        Check.due("a square between parts shapes", 2, x::run);
        Check.square(x, 0, 6, 4);
        Check.due("until it is there", 1, x::run);
        Check.due("squares", 6, () -> x.size(0, 0));
        // bows that open to each of the four sides
        int[][] bows = {{0, 0, 1, 0, 1, 1, 2, 1, 2, 0, 3, 0, 3, 2, 0, 2}, {0, 0, 2, 0, 2, 1, 1, 1, 1, 2, 2, 2, 2, 3, 0, 3}};
        for (int[] corners : bows) {
            DeviceFind bow = plain(1);
            Check.polygon(bow, 0, corners);
            Check.due("a bow", 1, bow::run);
            Check.due("squares of a bow", 5, () -> bow.size(0, 0));
            Check.polygon(bow, 0, mirrored(corners));
            Check.due("a bow and its mirror", 2, bow::run);
            Check.due("squares of its mirror", 5, () -> bow.size(1, 0));
        }
    }

    /** The corners turned half round about the middle of the plane. */
    private static int[] mirrored(int[] corners) {
        int[] turned = new int[corners.length];
        for (int k = 0; k < corners.length; k++) {
            turned[k] = 64 - corners[k];
        }
        return turned;
    }

    private static void cornersAlone() {
        DeviceFind x = plain(1);
        Check.square(x, 0, 4, 4);
        Check.square(x, 0, 5, 5);
        Check.square(x, 0, 3, 5);
        Check.square(x, 0, 3, 3);
        Check.square(x, 0, 5, 3);
        Check.due("five shapes", 5, x::run);
        for (int device = 0; device < 5; device++) {
            int d = device;
            Check.due("squares of shape " + d, 1, () -> x.size(d, 0));
        }
    }

    private static void byLowestRow() {
        DeviceFind x = plain(1);
        Check.square(x, 0, 0, 2);
        Check.polygon(x, 0, 9, 1, 10, 1, 10, 4, 9, 4);
        Check.square(x, 0, 20, 0);
        Check.due("run", 3, x::run);
        Check.due("row 0", 0, () -> x.net(0, 20, 0));
        Check.due("row 1", 1, () -> x.net(0, 9, 3));
        Check.due("row 2", 2, () -> x.net(0, 0, 2));
    }

    private static void byLeftmostSquare() {
        DeviceFind x = plain(1);
        // the right one goes farther left, but above its lowest row
        Check.polygon(x, 0, 30, 0, 31, 0, 31, 5, 0, 5, 0, 4, 30, 4);
        Check.rectangle(x, 0, 10, 0, 3, 1);
        Check.square(x, 0, 63, 0);
        Check.square(x, 0, 0, 0);
        Check.due("run", 4, x::run);
        int[] columns = {0, 10, 30, 63};
        for (int k = 0; k < 4; k++) {
            int shape = k;
            Check.due("shape at " + columns[k], shape, () -> x.net(0, columns[shape], 0));
            Check.due("device at " + columns[k], columns[k], () -> x.device(shape, 3));
        }
        Check.due("the far end of the third one", 2, () -> x.net(0, 0, 4));
    }

    /** A device at (5, 5) with a square of its pin's wire: whether it touches. */
    private static void touch(int want, int column, int row) {
        DeviceFind x = Check.reading(2, 1, "input a=0;input b=1;wire b;device d=a pins b;");
        Check.square(x, 0, 5, 5);
        Check.square(x, 1, column, row);
        x.run();
        Check.due("pin at " + column + ", " + row, want, () -> x.pin(0, 0));
    }

    private static void touchWithin() {
        touch(0, 5, 5);
        DeviceFind x = Check.reading(2, 1, "input a=0;input b=1;wire b;device d=a pins b;");
        Check.square(x, 0, 5, 5);
        Check.rectangle(x, 1, 4, 4, 3, 3);
        x.run();
        Check.due("a pin all around", 0, () -> x.pin(0, 0));
        DeviceFind y = Check.reading(2, 1, "input a=0;input b=1;wire b;device d=a pins b;");
        Check.rectangle(y, 0, 4, 4, 3, 3);
        Check.square(y, 1, 5, 5);
        y.run();
        Check.due("a pin within", 0, () -> y.pin(0, 0));
    }

    private static void touchBeside() {
        int[][] beside = {{4, 5}, {6, 5}, {5, 4}, {5, 6}};
        int[][] off = {{4, 4}, {6, 4}, {4, 6}, {6, 6}, {3, 5}, {7, 5}, {5, 3}, {5, 7}};
        for (int[] at : beside) {
            touch(0, at[0], at[1]);
        }
        for (int[] at : off) {
            touch(DeviceFind.NONE, at[0], at[1]);
        }
        // not over the plane's end to the next row, nor to the other side
        DeviceFind x = Check.reading(2, 1, "input a=0;input b=1;wire b;device d=a pins b;");
        Check.square(x, 0, 63, 10);
        Check.square(x, 1, 0, 10);
        Check.square(x, 1, 0, 11);
        Check.square(x, 0, 20, 63);
        Check.square(x, 1, 20, 0);
        Check.due("run", 2, x::run);
        Check.due("over the end of a row", -1, () -> x.pin(0, 0));
        Check.due("over the end of a column", -1, () -> x.pin(1, 0));
    }

    private static void inputs(int layers, int most) {
        DeviceFind x = new DeviceFind(layers);
        Check.due(layers + " inputs: the last one", 0, () -> x.polygon(most - 1));
        Check.due(layers + " inputs: one more", BOUNDS, () -> x.polygon(most));
        Check.same(layers + " inputs: the last one told", 0, Check.read(x, "input a=" + (most - 1) + ";"));
        Check.same(layers + " inputs: one more told", -4, Check.read(x, "input a=" + most + ";"));
    }

    private static void soManyInputs() {
        inputs(1, 1);
        inputs(2, 2);
        inputs(25, 25);
        inputs(65535, 65535);
        inputs(65536, 65536);
    }

    private static void fewestInputs() {
        inputs(0, 1);
        inputs(-1, 1);
        inputs(Integer.MIN_VALUE, 1);
    }

    private static void mostInputs() {
        inputs(65537, 65536);
        inputs(Integer.MAX_VALUE, 65536);
    }

    private static void noTextRead() {
        DeviceFind x = new DeviceFind(5);
        Check.due("run", STATE, x::run);
        for (int what = 0; what < 9; what++) {
            int w = what;
            Check.due("count " + what, 0, () -> x.count(w));
        }
    }

    private static void withoutCorners() {
        DeviceFind x = plain(1);
        Check.rectangle(x, 0, 0, 0, 2, 2);
        x.polygon(0);
        x.run();
        Check.same("squares", "##. ##. ...", Check.picture(x, 0, 3, 3));
        Check.due("a first corner askew from the last one of the polygon before", 1, () -> x.corner(1, 7, 7));
        x.polygon(0);
        for (int k = 0; k < 16; k++) {
            int at = k;
            Check.due("room for corner " + k, 1, () -> x.corner(2, at, 0));
        }
    }

    private static void noSuchInput() {
        DeviceFind x = new DeviceFind(4);
        for (int input : new int[] {-1, 4, 5, Integer.MIN_VALUE, Integer.MAX_VALUE}) {
            Check.due("polygon(" + input + ")", BOUNDS, () -> x.polygon(input));
        }
        Check.due("no polygon came", 0, () -> x.count(6));
    }

    private static DeviceFind sixty() {
        DeviceFind x = new DeviceFind(2);
        for (int k = 0; k < 60; k++) {
            x.polygon(1);
        }
        return x;
    }

    private static void noMorePolygons() {
        DeviceFind x = sixty();
        Check.due("the 61st polygon", STATE, () -> x.polygon(1));
        Check.due("the 61st polygon of another input", STATE, () -> x.polygon(0));
        Check.due("no polygon came", 60, () -> x.count(6));
        Check.due("no corner of a 61st one", BOUNDS, () -> x.corner(60, 0, 0));
    }

    private static void polygonThrowsFirst() {
        DeviceFind x = sixty();
        Check.due("the 61st polygon of no input", BOUNDS, () -> x.polygon(2));
        Check.due("the 61st polygon of no input", BOUNDS, () -> x.polygon(-1));
    }

    private static void oneMoreCorner() {
        DeviceFind x = new DeviceFind(1);
        x.polygon(0);
        Check.due("a corner", 1, () -> x.corner(0, 0, 0));
        Check.due("the same", 0, () -> x.corner(0, 0, 0));
        Check.due("far in both", 0, () -> x.corner(0, 64, 64));
        Check.due("far in x", 1, () -> x.corner(0, 64, 0));
        Check.due("far in y", 1, () -> x.corner(0, 64, 64));
    }

    private static void cornerNotThere() {
        DeviceFind x = plain(1);
        Check.polygon(x, 0, 0, 0, 2, 0);
        x.corner(0, 3, 3);
        Check.due("the one before is still the one before", 0, () -> x.corner(0, 3, 2));
        Check.due("the one before is still the one before", 1, () -> x.corner(0, 2, 2));
        for (int k = 0; k < 20; k++) {
            Check.due("the same", 0, () -> x.corner(0, 2, 2));
        }
        Check.due("it is none of 16", 1, () -> x.corner(0, 0, 2));
        x.corner(0, 0, 2);
        x.corner(0, 5, 5);
        x.run();
        Check.same("it is no corner of the polygon", "##. ##. ...", Check.picture(x, 0, 3, 3));
    }

    private static void nothingChanges() {
        DeviceFind x = plain(1);
        Check.rectangle(x, 0, 0, 0, 2, 2);
        x.run();
        Check.due("the same", 0, () -> x.corner(0, 0, 2));
        Check.due("askew", 0, () -> x.corner(0, 5, 5));
        Check.due("what was found is there", 1, () -> x.count(4));
        Check.due("what was found is there", 0, () -> x.net(0, 1, 1));
        Check.due("what was found is there", 4, () -> x.size(0, 0));
    }

    private static void firstCorner() {
        DeviceFind x = new DeviceFind(1);
        int[][] firsts = {{0, 0}, {64, 64}, {0, 64}, {64, 0}, {7, 9}};
        for (int k = 0; k < firsts.length; k++) {
            int polygon = x.polygon(0);
            int[] c = firsts[k];
            Check.due("first corner " + c[0] + ", " + c[1], 1, () -> x.corner(polygon, c[0], c[1]));
            Check.due("the same as second one", 0, () -> x.corner(polygon, c[0], c[1]));
        }
    }

    private static void noSuchPolygon() {
        DeviceFind x = new DeviceFind(9);
        Check.due("no polygons", BOUNDS, () -> x.corner(0, 0, 0));
        x.polygon(8);
        x.polygon(8);
        Check.due("polygon 1", 1, () -> x.corner(1, 0, 0));
        for (int polygon : new int[] {-1, 2, 8, 59, 60, Integer.MIN_VALUE, Integer.MAX_VALUE}) {
            Check.due("polygon " + polygon, BOUNDS, () -> x.corner(polygon, 0, 0));
        }
    }

    private static DeviceFind sixteen() {
        DeviceFind x = new DeviceFind(1);
        x.polygon(0);
        for (int k = 0; k < 16; k++) {
            x.corner(0, k, 0);
        }
        return x;
    }

    private static void noMoreCorners() {
        DeviceFind x = sixteen();
        Check.due("the 17th corner", STATE, () -> x.corner(0, 16, 0));
        Check.due("the 17th corner, the same as the 16th", STATE, () -> x.corner(0, 15, 0));
        Check.due("the 17th corner, askew", STATE, () -> x.corner(0, 20, 20));
        x.polygon(0);
        Check.due("another polygon", 1, () -> x.corner(1, 16, 0));
    }

    private static void cornerBeyond() {
        DeviceFind x = new DeviceFind(1);
        x.polygon(0);
        long[] beyond = {-1, 65, 1L << 32, (1L << 32) + 5, -(1L << 32), Long.MIN_VALUE, Long.MAX_VALUE};
        for (int turn = 0; turn < 2; turn++) {
            for (long far : beyond) {
                Check.due("x is " + far, ARGUMENT, () -> x.corner(0, far, 0));
                Check.due("y is " + far, ARGUMENT, () -> x.corner(0, 0, far));
                Check.due("both are " + far, ARGUMENT, () -> x.corner(0, far, far));
            }
            Check.due("a corner within", 1, () -> x.corner(0, 64, x.count(6) == 1 ? 0 : 64));
            x.polygon(0);
        }
    }

    private static void cornerThrowsFirst() {
        DeviceFind x = sixteen();
        Check.due("no polygon, and beyond", BOUNDS, () -> x.corner(1, 65, -1));
        Check.due("no polygon, and beyond", BOUNDS, () -> x.corner(-1, 65, -1));
        Check.due("it has 16, and beyond", STATE, () -> x.corner(0, 65, 0));
        Check.due("it has 16, and beyond", STATE, () -> x.corner(0, 0, -1));
        x.polygon(0);
        x.corner(1, 3, 3);
        Check.due("beyond, and askew", ARGUMENT, () -> x.corner(1, 65, 4));
    }

    private static void wireNumbers() {
        DeviceFind x = new DeviceFind(1);
        Check.due("wire 0", 1, () -> x.text(0, 0, 0, 1));
        Check.due("wire 7", 2, () -> x.text(7, 0, 0, 1));
        Check.due("wire 8", BOUNDS, () -> x.text(8, 0, 0, 1));
        Check.due("wire -1", BOUNDS, () -> x.text(-1, 0, 0, 1));
    }

    private static void noSuchWire() {
        DeviceFind x = plain(1);
        Check.square(x, 0, 0, 0);
        Check.due("a text for a wire that there is not", 1, () -> x.text(1, 0, 0, 5));
        Check.due("a text for a wire that there is not", 2, () -> x.text(7, 0, 0, 5));
        x.run();
        Check.due("it names nothing", -1, () -> x.named(0));
        Check.same("read", 0, Check.read(x, "input a=0;wire a;input b=0;wire b;"));
        x.run();
        Check.due("until there is one", 5, () -> x.named(1));
        Check.due("and not another one", -1, () -> x.named(0));
    }

    private static void howManyTexts() {
        DeviceFind x = new DeviceFind(1);
        for (int k = 1; k <= 3; k++) {
            Check.due("the same text " + k, k, () -> x.text(2, 3, 4, 5));
        }
        Check.due("texts", 3, () -> x.count(7));
        Check.same("read", 0, Check.read(x, "input a=0;"));
        Check.due("texts go on after read()", 4, () -> x.text(2, 3, 4, 5));
    }

    private static void noWireNumber() {
        DeviceFind x = new DeviceFind(1);
        for (int wire : new int[] {-1, 8, Integer.MIN_VALUE, Integer.MAX_VALUE}) {
            Check.due("wire " + wire, BOUNDS, () -> x.text(wire, 0, 0, 0));
        }
        Check.due("no text came", 0, () -> x.count(7));
    }

    private static void noSquare() {
        DeviceFind x = new DeviceFind(1);
        for (long far : new long[] {-1, 64, 1L << 32, (1L << 32) + 5, Long.MIN_VALUE, Long.MAX_VALUE}) {
            Check.due("x is " + far, BOUNDS, () -> x.text(0, far, 0, 0));
            Check.due("y is " + far, BOUNDS, () -> x.text(0, 0, far, 0));
        }
        Check.due("no text came", 0, () -> x.count(7));
        Check.due("the last square", 1, () -> x.text(0, 63, 63, 0));
        Check.due("the first square", 2, () -> x.text(0, 0, 0, 0));
    }

    private static DeviceFind forty() {
        DeviceFind x = new DeviceFind(1);
        for (int k = 0; k < 39; k++) {
            x.text(k % 8, k, k, k);
        }
        Check.due("the 40th text", 40, () -> x.text(0, 0, 0, 0));
        return x;
    }

    private static void noMoreTexts() {
        DeviceFind x = forty();
        Check.due("the 41st text", STATE, () -> x.text(0, 0, 0, 0));
        Check.due("texts", 40, () -> x.count(7));
    }

    private static void nameBelowZero() {
        DeviceFind x = new DeviceFind(1);
        Check.due("name -1", ARGUMENT, () -> x.text(0, 0, 0, -1));
        Check.due("the least name of all", ARGUMENT, () -> x.text(0, 0, 0, Integer.MIN_VALUE));
        Check.due("no text came", 0, () -> x.count(7));
        Check.due("name 0", 1, () -> x.text(0, 0, 0, 0));
        Check.due("the greatest name", 2, () -> x.text(0, 0, 0, Integer.MAX_VALUE));
    }

    private static void textThrowsFirst() {
        DeviceFind x = new DeviceFind(1);
        Check.due("no number, and a name below 0", BOUNDS, () -> x.text(8, 0, 0, -1));
        Check.due("no square, and a name below 0", BOUNDS, () -> x.text(0, 64, 0, -1));
        Check.due("no square, and a name below 0", BOUNDS, () -> x.text(0, 0, -1, -1));
        DeviceFind full = forty();
        Check.due("no number, and there are 40", BOUNDS, () -> full.text(-1, 0, 0, 0));
        Check.due("no square, and there are 40", BOUNDS, () -> full.text(0, 0, 64, 0));
        Check.due("there are 40, and a name below 0", STATE, () -> full.text(0, 0, 0, -1));
    }
}

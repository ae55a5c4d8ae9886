/** A test of its own for each boundary case of "3 WHAT IS FOUND" and of promise 8. */
public final class FoundEdgesTest {
    private static final String BOUNDS = "throws.IndexOutOfBoundsException";
    private static final String STATE = "throws.IllegalStateException";
    private static final String UNSUPPORTED = "throws.UnsupportedOperationException";
    private static final int NONE = DeviceFind.NONE;

    /** Input 0 is the places, inputs 1 and 2 are wires 0 and 1. */
    private static final String PLACES = "input p=0;input a=1;input b=2;wire a;wire b;";

    public static void main(String[] args) {
        nets();
        devices();
        sizes();
        names();
        runPromise();
        Check.end();
    }

    private static void nets() {
        Check.sentence("shapes of wires, wires by numbers, in each shapes by numbers, are NODES", FoundEdgesTest::nodes);
        Check.sentence("All nodes of the first two wires of a join", FoundEdgesTest::nodesOfTwoWires);
        Check.sentence("that have a square in common", FoundEdgesTest::squareInCommon);
        Check.sentence("with one shape of its third layer", FoundEdgesTest::oneShape);
        Check.sentence("are of one net", FoundEdgesTest::ofOneNet);
        Check.sentence("nets are the least such ones", FoundEdgesTest::leastNets);
        Check.sentence("numbered by their least nodes", FoundEdgesTest::numbersOfNets);
        Check.sentence("nets, where there are no nodes", FoundEdgesTest::noNodes);
    }

    private static void devices() {
        Check.sentence("for each kind, for each shape of its layer: its PLACE", FoundEdgesTest::placesInOrder);
        Check.sentence("Its pins, in order: of the shapes of the pin's wire", FoundEdgesTest::shapesOfPinsWire);
        Check.sentence("that touch the place", FoundEdgesTest::touchPlace);
        Check.sentence("and that no pin before it has", FoundEdgesTest::noPinBefore);
        Check.sentence("the first one", FoundEdgesTest::firstShape);
        Check.sentence("if there is none, the pin is OPEN", FoundEdgesTest::openPins);
        Check.sentence("the device BAD", FoundEdgesTest::badIfOpen);
        Check.sentence("BAD, too, if there are shapes .. that touch the place, and no pin has them",
                FoundEdgesTest::badIfTooMany);
        Check.sentence("of one of its pins' wires", FoundEdgesTest::otherWires);
    }

    private static void sizes() {
        Check.sentence("0 squares of the place", FoundEdgesTest::squaresOfPlaces);
        Check.sentence("1 the length of its edges (to squares that are not its own", FoundEdgesTest::edgesOfPlaces);
        Check.sentence("or beyond the plane)", FoundEdgesTest::edgesBeyond);
        Check.sentence("2 the length of edges .. beyond which is a square of the first pin's shape",
                FoundEdgesTest::edgesToFirstPin);
        Check.sentence("that is not the place's own", FoundEdgesTest::notTheOwn);
        Check.sentence("0 if that pin is open", FoundEdgesTest::openFirstPin);
    }

    private static void names() {
        Check.sentence("a text names the net of the shape of that wire in which the square is",
                FoundEdgesTest::textsNameNets);
        Check.sentence("no net, if there is no such wire", FoundEdgesTest::noSuchWire);
        Check.sentence("or shape", FoundEdgesTest::noSuchShape);
        Check.sentence("A net is NAMED by the least of its names", FoundEdgesTest::leastName);
        Check.sentence("TWICE named if there are two different ones", FoundEdgesTest::twoDifferent);
    }

    private static void runPromise() {
        Check.sentence("All is found: how many devices", FoundEdgesTest::howManyDevices);
        Check.sentence("run: IllegalStateException: no text was read", FoundEdgesTest::noTextWasRead);
        Check.sentence("UnsupportedOperationException: there are more than 300 devices",
                FoundEdgesTest::moreThanThreeHundred);
        Check.sentence("then nothing is found", FoundEdgesTest::nothingIsFound);
        Check.sentence("and what an earlier run() found is gone, too", FoundEdgesTest::earlierIsGone);
        Check.sentence("as if there had been none", FoundEdgesTest::asIfNone);
    }

    private static void net(DeviceFind x, int want, int wire, int column, int row) {
        Check.due("net of wire " + wire + " at " + column + ", " + row, want, () -> x.net(wire, column, row));
    }

    private static void pins(DeviceFind x, int device, int... want) {
        for (int k = 0; k < want.length; k++) {
            int pin = k;
            Check.due("pin " + k + " of device " + device, want[k], () -> x.pin(device, pin));
        }
        Check.due("one more pin of device " + device, BOUNDS, () -> x.pin(device, want.length));
    }

    private static void bad(DeviceFind x, int want, int device) {
        Check.due("bad " + device, want, () -> x.device(device, 2));
    }

    private static void sizesOf(DeviceFind x, int device, long squares, long edges, long toPin) {
        long[] want = {squares, edges, toPin};
        for (int which = 0; which < 3; which++) {
            int w = which;
            Check.due("size " + which + " of device " + device, want[which], () -> x.size(device, w));
        }
    }

    private static void nodes() {
        DeviceFind x = Check.reading(3, 0, "input a=0;input b=1;input c=2;wire c;wire a;wire b;");
        for (int input = 0; input < 2; input++) {
            Check.square(x, input, 9, 5);
            Check.square(x, input, 3, 5);
            Check.square(x, input, 60, 0);
        }
        x.run();
        Check.due("nets", 6, () -> x.count(5));
        for (int wire = 1; wire < 3; wire++) {
            net(x, 3 * wire - 3, wire, 60, 0);
            net(x, 3 * wire - 2, wire, 3, 5);
            net(x, 3 * wire - 1, wire, 9, 5);
        }
        net(x, NONE, 0, 3, 5);
    }

    private static void nodesOfTwoWires() {
        DeviceFind x = Check.reading(4, 0, "input a=0;input b=1;input c=2;input j=3;wire a;wire b;wire c;join a b by j;");
        for (int input = 0; input < 3; input++) {
            Check.square(x, input, 2 * input, 0);
            Check.square(x, input, 10 + 2 * input, 0);
        }
        Check.rectangle(x, 3, 0, 0, 20, 1);
        x.run();
        int[][] want = {{0, 0}, {0, 0}, {1, 2}};
        for (int wire = 0; wire < 3; wire++) {
            net(x, want[wire][0], wire, 2 * wire, 0);
            net(x, want[wire][1], wire, 10 + 2 * wire, 0);
        }
        Check.due("nets", 3, () -> x.count(5));
    }

    private static void squareInCommon() {
        String text = "input a=0;input b=1;input j=2;wire a;wire b;join a b by j;";
        DeviceFind beside = Check.reading(3, 0, text);
        Check.square(beside, 0, 0, 0);
        Check.square(beside, 1, 2, 0);
        Check.square(beside, 2, 1, 0);
        beside.run();
        Check.due("beside both", 2, () -> beside.count(5));
        Check.square(beside, 2, 0, 0);
        beside.run();
        Check.due("beside one", 2, () -> beside.count(5));
        Check.square(beside, 2, 2, 0);
        beside.run();
        Check.due("a square of each", 1, () -> beside.count(5));
        // a shape that has a square of the one wire, with the other wire on each of its sides
        int[][] sides = {{4, 5}, {6, 5}, {5, 4}, {5, 6}};
        for (int[] at : sides) {
            for (int wire = 0; wire < 2; wire++) {
                DeviceFind side = Check.reading(3, 0, text);
                Check.square(side, wire, 5, 5);
                Check.square(side, 1 - wire, at[0], at[1]);
                Check.square(side, 2, 5, 5);
                side.run();
                Check.due("wire " + (1 - wire) + " at " + at[0] + ", " + at[1], 2, () -> side.count(5));
            }
        }
        DeviceFind without = Check.reading(3, 0, text);
        Check.square(without, 0, 0, 0);
        Check.square(without, 1, 0, 0);
        without.run();
        Check.due("wires that have a square in common, but no shape of the third layer", 2, () -> without.count(5));
        Check.square(without, 2, 0, 0);
        without.run();
        Check.due("all three at one square", 1, () -> without.count(5));
    }

    private static void oneShape() {
        DeviceFind x = Check.reading(3, 0, "input a=0;input b=1;input j=2;wire a;wire b;join a b by j;");
        Check.square(x, 0, 0, 0);
        Check.square(x, 1, 1, 1);
        Check.square(x, 2, 0, 0);
        Check.square(x, 2, 1, 1);
        x.run();
        Check.due("two shapes that meet at a corner", 2, () -> x.count(5));
        Check.square(x, 2, 1, 0);
        x.run();
        Check.due("one shape", 1, () -> x.count(5));
    }

    private static void ofOneNet() {
        DeviceFind x = Check.reading(2, 0, "input a=0;input j=1;wire a;join a a by j;");
        for (int k = 0; k < 5; k++) {
            Check.square(x, 0, 2 * k, 0);
        }
        Check.rectangle(x, 1, 0, 0, 7, 1);
        Check.square(x, 1, 8, 0);
        x.run();
        Check.due("nets", 2, () -> x.count(5));
        for (int k = 0; k < 5; k++) {
            net(x, k < 4 ? 0 : 1, 0, 2 * k, 0);
        }
    }

    private static void leastNets() {
        DeviceFind x = Check.reading(4, 0, "input a=0;input b=1;input j=2;input k=3;wire a;wire b;"
                + "join a b by j;join b b by k;");
        // a0 to b0 by j, a1 to b1 by j, b0 to b1 by k; a2 and b2 lie on each other, and are not joined
        Check.square(x, 0, 0, 0);
        Check.square(x, 0, 10, 0);
        Check.square(x, 0, 20, 0);
        Check.square(x, 1, 2, 0);
        Check.square(x, 1, 12, 0);
        Check.square(x, 1, 20, 0);
        Check.rectangle(x, 2, 0, 0, 3, 1);
        Check.rectangle(x, 2, 10, 0, 3, 1);
        x.run();
        Check.due("nets of the first join", 4, () -> x.count(5));
        Check.rectangle(x, 3, 2, 0, 19, 1);
        x.run();
        int[] want = {0, 0, 1};
        for (int k = 0; k < 3; k++) {
            net(x, want[k], 0, 10 * k, 0);
        }
        net(x, 0, 1, 2, 0);
        net(x, 0, 1, 12, 0);
        net(x, 0, 1, 20, 0);
        Check.due("nets", 2, () -> x.count(5));
    }

    private static void numbersOfNets() {
        DeviceFind x = Check.reading(3, 0, "input a=0;input b=1;input j=2;wire a;wire b;join b a by j;");
        for (int k = 0; k < 4; k++) {
            Check.square(x, 0, 2 * k, 0);
        }
        Check.square(x, 1, 0, 5);
        Check.square(x, 1, 6, 5);
        Check.square(x, 1, 20, 5);
        Check.rectangle(x, 2, 6, 0, 1, 6); // a3 with b1
        Check.polygon(x, 2, 2, 0, 5, 0, 5, 1, 4, 1, 4, 2, 3, 2, 3, 1, 2, 1); // a1 with a2
        x.run();
        int[] ofA = {0, 1, 1, 2};
        int[] ofB = {3, 2, 4};
        for (int k = 0; k < 4; k++) {
            net(x, ofA[k], 0, 2 * k, 0);
        }
        net(x, ofB[0], 1, 0, 5);
        net(x, ofB[1], 1, 6, 5);
        net(x, ofB[2], 1, 20, 5);
        Check.due("nets", 5, () -> x.count(5));
    }

    private static void noNodes() {
        DeviceFind wires = Check.reading(1, 0, "input a=0;make e=a less a;wire e;join e e by a;");
        Check.square(wires, 0, 0, 0);
        wires.run();
        Check.due("a wire without squares", 0, () -> wires.count(5));
        net(wires, NONE, 0, 0, 0);
        Check.due("no net 0", BOUNDS, () -> wires.named(0));
        DeviceFind none = Check.reading(1, 0, "input a=0;");
        Check.square(none, 0, 0, 0);
        none.run();
        Check.due("no wires", 0, () -> none.count(5));
        Check.due("no wire 0", BOUNDS, () -> none.net(0, 0, 0));
    }

    private static void placesInOrder() {
        DeviceFind x = Check.reading(3, 4, PLACES + "device k=b pins a;device l=p pins a;"
                + "device m=a pins a;device n=b pins b;");
        Check.square(x, 2, 9, 9);
        Check.square(x, 2, 4, 2);
        Check.square(x, 0, 30, 30);
        Check.due("run", 5, x::run);
        int[][] want = {{0, 0, 4, 2}, {0, 1, 9, 9}, {1, 0, 30, 30}, {3, 0, 4, 2}, {3, 1, 9, 9}};
        int[] whats = {0, 1, 3, 4};
        for (int k = 0; k < 5; k++) {
            for (int j = 0; j < 4; j++) {
                int device = k;
                int what = whats[j];
                Check.due("device " + k + " what " + what, want[k][j], () -> x.device(device, what));
            }
        }
    }

    private static void shapesOfPinsWire() {
        DeviceFind x = Check.reading(3, 1, PLACES + "device d=p pins b a;");
        Check.square(x, 0, 5, 5);
        Check.square(x, 1, 4, 5);
        Check.square(x, 2, 6, 5);
        Check.due("run", 1, x::run);
        pins(x, 0, 1, 0);
        bad(x, 0, 0);
    }

    private static void touchPlace() {
        DeviceFind x = Check.reading(3, 1, PLACES + "device d=p pins a;");
        Check.rectangle(x, 0, 10, 10, 2, 2);
        Check.square(x, 1, 9, 9);
        Check.square(x, 1, 12, 9);
        Check.square(x, 1, 9, 12);
        Check.square(x, 1, 12, 12);
        Check.due("run", 1, x::run);
        pins(x, 0, NONE);
        Check.square(x, 1, 12, 10);
        x.run();
        pins(x, 0, 1);
        bad(x, 0, 0);
        // at the plane's ends
        DeviceFind ends = Check.reading(3, 1, PLACES + "device d=p pins a;");
        Check.square(ends, 0, 0, 0);
        Check.square(ends, 0, 63, 0);
        Check.square(ends, 0, 0, 63);
        Check.square(ends, 0, 63, 63);
        Check.square(ends, 1, 0, 1);
        Check.square(ends, 1, 62, 63);
        Check.due("run", 4, ends::run);
        pins(ends, 0, 0);
        pins(ends, 1, NONE);
        pins(ends, 2, NONE);
        pins(ends, 3, 1);
    }

    private static void noPinBefore() {
        DeviceFind x = Check.reading(3, 1, PLACES + "device d=p pins a b a;");
        Check.rectangle(x, 0, 5, 5, 5, 1);
        Check.square(x, 1, 5, 4);
        Check.square(x, 1, 7, 4);
        Check.square(x, 2, 9, 4);
        x.run();
        pins(x, 0, 0, 2, 1);
        bad(x, 0, 0);
        // shapes of one net are still different shapes
        DeviceFind joined = Check.reading(3, 1, "input p=0;input a=1;input j=2;wire a;join a a by j;device d=p pins a a;");
        Check.rectangle(joined, 0, 5, 5, 5, 1);
        Check.square(joined, 1, 5, 4);
        Check.square(joined, 1, 7, 4);
        Check.rectangle(joined, 2, 5, 4, 3, 1);
        joined.run();
        pins(joined, 0, 0, 0);
        bad(joined, 0, 0);
        // one shape that touches twice is one shape
        DeviceFind once = Check.reading(3, 1, PLACES + "device d=p pins a a;");
        Check.rectangle(once, 0, 5, 4, 3, 1);
        Check.polygon(once, 1, 5, 4, 6, 4, 6, 3, 7, 3, 7, 4, 8, 4, 8, 2, 5, 2);
        once.run();
        pins(once, 0, 0, NONE);
        bad(once, 1, 0);
        // shapes of two wires with the same squares are two shapes
        DeviceFind twins = Check.reading(2, 1, "input p=0;input a=1;input b=1;wire a;wire b;device d=p pins a b;");
        Check.square(twins, 0, 5, 5);
        Check.square(twins, 1, 5, 4);
        twins.run();
        pins(twins, 0, 0, 1);
        bad(twins, 0, 0);
    }

    private static void firstShape() {
        DeviceFind x = Check.reading(3, 1, PLACES + "device d=p pins a a a;");
        Check.rectangle(x, 0, 10, 10, 5, 5);
        Check.square(x, 1, 12, 15);
        Check.square(x, 1, 15, 12);
        // begins lowest, though it touches at the top
        Check.polygon(x, 1, 30, 0, 31, 0, 31, 16, 14, 16, 14, 15, 30, 15);
        Check.square(x, 1, 0, 0);
        x.run();
        net(x, 0, 0, 0, 0);
        pins(x, 0, 1, 2, 3);
        net(x, 1, 0, 14, 15);
        net(x, 2, 0, 15, 12);
        net(x, 3, 0, 12, 15);
    }

    private static void openPins() {
        DeviceFind x = Check.reading(3, 2, PLACES + "device d=p pins a b a b;device e=p pins b;");
        Check.rectangle(x, 0, 5, 5, 3, 1);
        x.run();
        pins(x, 0, NONE, NONE, NONE, NONE);
        pins(x, 1, NONE);
        Check.square(x, 2, 5, 5);
        x.run();
        pins(x, 0, NONE, 0, NONE, NONE);
        pins(x, 1, 0);
        Check.square(x, 1, 5, 5);
        Check.square(x, 2, 7, 5);
        x.run();
        pins(x, 0, 0, 1, NONE, 2);
    }

    private static void badIfOpen() {
        DeviceFind x = Check.reading(3, 1, PLACES + "device d=p pins a b;");
        Check.square(x, 0, 0, 0); // both open
        Check.square(x, 0, 10, 0); // the second one open
        Check.square(x, 1, 10, 0);
        Check.square(x, 0, 20, 0); // the first one open
        Check.square(x, 2, 20, 0);
        Check.square(x, 0, 30, 0); // none
        Check.square(x, 1, 30, 0);
        Check.square(x, 2, 30, 0);
        Check.due("run", 4, x::run);
        for (int device = 0; device < 4; device++) {
            bad(x, device < 3 ? 1 : 0, device);
        }
    }

    private static void badIfTooMany() {
        DeviceFind x = Check.reading(3, 1, PLACES + "device d=p pins a b;");
        for (int k = 0; k < 4; k++) {
            Check.rectangle(x, 0, 10 * k, 0, 3, 1);
            Check.square(x, 1, 10 * k, 0);
            Check.square(x, 2, 10 * k, 0);
        }
        Check.square(x, 1, 2, 0); // one more of the first pin's wire
        Check.square(x, 2, 12, 1); // one more of the second pin's wire, beside
        Check.square(x, 2, 23, 1); // only at a corner
        Check.rectangle(x, 1, 30, 0, 3, 1); // one shape
        Check.due("run", 4, x::run);
        bad(x, 1, 0);
        bad(x, 1, 1);
        bad(x, 0, 2);
        bad(x, 0, 3);
        pins(x, 0, 0, 5);
        DeviceFind two = Check.reading(3, 2, PLACES + "device d=p pins a a;device e=p pins a a a a;");
        Check.rectangle(two, 0, 0, 0, 9, 1);
        for (int k = 0; k < 5; k++) {
            Check.square(two, 1, 2 * k, 0);
            Check.due("run", 2, two::run);
            bad(two, k == 1 ? 0 : 1, 0);
            bad(two, k == 3 ? 0 : 1, 1);
        }
    }

    private static void otherWires() {
        DeviceFind x = Check.reading(3, 2, PLACES + "device d=p pins a;device e=p pins b;");
        Check.rectangle(x, 0, 0, 0, 3, 1);
        Check.square(x, 1, 0, 0);
        Check.square(x, 2, 0, 0);
        Check.square(x, 2, 2, 0);
        Check.due("run", 2, x::run);
        bad(x, 0, 0);
        bad(x, 1, 1);
    }

    private static void squaresOfPlaces() {
        DeviceFind x = Check.reading(3, 1, PLACES + "device d=p pins a;");
        Check.square(x, 0, 0, 0);
        Check.rectangle(x, 0, 10, 10, 3, 3);
        Check.polygon(x, 0, 20, 20, 23, 20, 23, 21, 21, 21, 21, 23, 20, 23);
        Check.due("run", 3, x::run);
        int[] want = {1, 9, 5};
        for (int k = 0; k < 3; k++) {
            int device = k;
            Check.due("squares", want[k], () -> x.size(device, 0));
        }
        Check.rectangle(x, 0, 0, 0, 64, 64);
        Check.due("run", 1, x::run);
        Check.due("squares of the whole plane", 4096, () -> x.size(0, 0));
    }

    private static void edgesOfPlaces() {
        DeviceFind x = Check.reading(3, 1, "input a=0;input b=1;input c=2;make p=a less b;wire c;device d=p pins c;");
        Check.square(x, 0, 1, 1);
        Check.rectangle(x, 0, 10, 10, 5, 3);
        Check.square(x, 1, 12, 11); // a hole
        Check.polygon(x, 0, 20, 20, 23, 20, 23, 22, 22, 22, 22, 21, 21, 21, 21, 22, 20, 22); // a notch
        Check.rectangle(x, 0, 40, 40, 2, 2); // two places that meet at a corner
        Check.square(x, 0, 42, 42);
        Check.due("run", 5, x::run);
        int[] want = {4, 20, 12, 8, 4};
        for (int k = 0; k < 5; k++) {
            int device = k;
            Check.due("edges", want[k], () -> x.size(device, 1));
        }
    }

    private static void edgesBeyond() {
        DeviceFind x = Check.reading(3, 1, PLACES + "device d=p pins a;");
        for (int y = 0; y < 64; y += 63) {
            Check.square(x, 0, 0, y);
            Check.rectangle(x, 0, 62, y, 2, 1);
        }
        Check.rectangle(x, 0, 0, 30, 64, 1);
        Check.due("run", 5, x::run);
        int[] want = {4, 6, 130, 4, 6};
        for (int k = 0; k < 5; k++) {
            int device = k;
            Check.due("edges", want[k], () -> x.size(device, 1));
        }
        Check.rectangle(x, 0, 0, 0, 64, 64);
        x.run();
        Check.due("edges of the whole plane", 256, () -> x.size(0, 1));
    }

    private static void edgesToFirstPin() {
        DeviceFind x = Check.reading(3, 2, PLACES + "device d=p pins b a a;device e=p pins a;");
        Check.rectangle(x, 0, 10, 10, 4, 2);
        Check.rectangle(x, 2, 10, 12, 3, 1); // three edges on top
        Check.rectangle(x, 1, 14, 9, 1, 3); // two edges at the right
        Check.square(x, 1, 11, 9); // another shape below
        Check.due("run", 2, x::run);
        sizesOf(x, 0, 8, 12, 3);
        sizesOf(x, 1, 8, 12, 1);
        // a square of the pin in a notch has edges on three sides, one at a corner has none
        DeviceFind notch = Check.reading(3, 1, PLACES + "device d=p pins a;");
        Check.polygon(notch, 0, 20, 20, 23, 20, 23, 22, 22, 22, 22, 21, 21, 21, 21, 22, 20, 22);
        Check.square(notch, 1, 21, 21);
        notch.run();
        sizesOf(notch, 0, 5, 12, 3);
        DeviceFind bent = Check.reading(3, 1, PLACES + "device d=p pins a;");
        Check.square(bent, 0, 20, 20);
        Check.polygon(bent, 1, 19, 19, 22, 19, 22, 22, 21, 22, 21, 20, 19, 20);
        bent.run();
        sizesOf(bent, 0, 1, 4, 2);
        // shapes of the same net that are not the pin's own shape do not count
        DeviceFind joined = Check.reading(3, 1, "input p=0;input a=1;input j=2;wire a;join a a by j;device d=p pins a a;");
        Check.rectangle(joined, 0, 5, 5, 5, 1);
        Check.square(joined, 1, 5, 4);
        Check.rectangle(joined, 1, 7, 4, 2, 1);
        Check.rectangle(joined, 2, 5, 4, 3, 1);
        joined.run();
        sizesOf(joined, 0, 5, 12, 1);
    }

    private static void notTheOwn() {
        DeviceFind x = Check.reading(3, 2, PLACES + "device d=p pins a;device e=a pins a;");
        Check.rectangle(x, 0, 10, 10, 2, 2);
        Check.rectangle(x, 1, 10, 10, 2, 2);
        Check.due("run", 2, x::run);
        sizesOf(x, 0, 4, 8, 0);
        sizesOf(x, 1, 4, 8, 0);
        Check.rectangle(x, 1, 11, 10, 2, 1); // one square more, at the right
        x.run();
        sizesOf(x, 0, 4, 8, 1);
        Check.rectangle(x, 1, 9, 9, 4, 4); // all around
        x.run();
        sizesOf(x, 0, 4, 8, 8);
        // the place all over the plane's end
        DeviceFind end = Check.reading(3, 1, PLACES + "device d=p pins a;");
        Check.square(end, 0, 63, 63);
        Check.rectangle(end, 1, 0, 0, 64, 64);
        end.run();
        sizesOf(end, 0, 1, 4, 2);
    }

    private static void openFirstPin() {
        DeviceFind x = Check.reading(3, 1, PLACES + "device d=p pins a b;");
        Check.square(x, 0, 5, 5);
        Check.square(x, 2, 6, 5);
        Check.square(x, 1, 6, 6);
        x.run();
        pins(x, 0, NONE, 1);
        sizesOf(x, 0, 1, 4, 0);
        // one device's first pin is not the next one's
        Check.square(x, 0, 0, 0);
        Check.square(x, 1, 1, 0);
        x.run();
        sizesOf(x, 0, 1, 4, 1);
        sizesOf(x, 1, 1, 4, 0);
    }

    private static void textsNameNets() {
        DeviceFind x = Check.reading(3, 0, "input a=0;input b=1;input j=2;wire a;wire b;join a b by j;");
        Check.rectangle(x, 0, 0, 0, 2, 2);
        Check.rectangle(x, 1, 1, 1, 2, 2);
        Check.rectangle(x, 0, 10, 0, 1, 1);
        x.text(0, 1, 1, 4);
        x.text(1, 1, 1, 6);
        x.run();
        int[] apart = {4, NONE, 6};
        for (int k = 0; k < 3; k++) {
            int net = k;
            Check.due("name of net " + k, apart[k], () -> x.named(net));
        }
        Check.rectangle(x, 2, 1, 1, 1, 1);
        x.run();
        Check.due("nets", 2, () -> x.count(5));
        Check.due("both name the net of both", 4, () -> x.named(0));
        Check.due("both name the net of both", 0, () -> x.twice(0));
        Check.due("the other net", NONE, () -> x.named(1));
    }

    private static void noSuchWire() {
        DeviceFind x = Check.reading(1, 0, "input a=0;wire a;");
        Check.square(x, 0, 0, 0);
        for (int wire = 1; wire < 8; wire++) {
            x.text(wire, 0, 0, wire);
        }
        x.run();
        Check.due("no name", NONE, () -> x.named(0));
        Check.due("no net is twice named", NONE, () -> x.twice(0));
        DeviceFind none = Check.reading(1, 0, "");
        none.text(0, 0, 0, 1);
        none.text(0, 0, 0, 2);
        Check.due("run", 0, none::run);
        Check.due("no net is twice named", NONE, () -> none.twice(0));
    }

    private static void noSuchShape() {
        DeviceFind x = Check.reading(2, 0, "input a=0;input b=1;wire a;wire b;");
        Check.square(x, 0, 5, 5);
        int[][] beside = {{4, 5}, {6, 5}, {5, 4}, {5, 6}, {0, 0}, {63, 63}};
        for (int[] at : beside) {
            x.text(0, at[0], at[1], 1);
            x.text(0, at[0], at[1], 2);
        }
        x.text(1, 5, 5, 3);
        x.run();
        Check.due("no name", NONE, () -> x.named(0));
        Check.due("no net is twice named", NONE, () -> x.twice(0));
        x.text(0, 5, 5, 9);
        x.run();
        Check.due("a name", 9, () -> x.named(0));
        Check.due("no net is twice named", NONE, () -> x.twice(0));
        x.text(0, 5, 5, 8);
        x.text(0, 63, 0, 1);
        x.text(0, 63, 0, 2);
        x.run();
        Check.due("one net is twice named", 0, () -> x.twice(0));
        Check.due("no other one", NONE, () -> x.twice(1));
    }

    private static void leastName() {
        DeviceFind x = Check.reading(1, 0, "input a=0;wire a;");
        Check.rectangle(x, 0, 0, 0, 3, 1);
        int[] names = {Integer.MAX_VALUE, 7, 9, 1, 3, 0, 5};
        int[] least = {Integer.MAX_VALUE, 7, 7, 1, 1, 0, 0};
        x.run();
        Check.due("no name", NONE, () -> x.named(0));
        for (int k = 0; k < names.length; k++) {
            x.text(0, k % 3, 0, names[k]);
            x.run();
            Check.due("the least of " + (k + 1), least[k], () -> x.named(0));
        }
    }

    private static void twoDifferent() {
        DeviceFind x = Check.reading(1, 0, "input a=0;wire a;");
        Check.rectangle(x, 0, 0, 0, 3, 1);
        Check.rectangle(x, 0, 10, 0, 3, 1);
        int[] names = {4, 4, 4, 0, 4};
        int[] twice = {NONE, NONE, NONE, 0, 0};
        x.text(0, 10, 0, 0);
        x.text(0, 12, 0, 0);
        for (int k = 0; k < names.length; k++) {
            x.text(0, k % 3, 0, names[k]);
            x.run();
            Check.due("twice named with " + (k + 1), twice[k], () -> x.twice(0));
            Check.due("no more than that", NONE, () -> x.twice(1));
        }
        x.text(0, 11, 0, 1);
        x.run();
        Check.due("the second one, too", 1, () -> x.twice(1));
    }

    private static void howManyDevices() {
        DeviceFind none = Check.reading(1, 0, "");
        Check.due("a text without kinds", 0, none::run);
        DeviceFind x = Check.reading(3, 2, PLACES + "device d=p pins a;device e=p pins b;");
        Check.due("kinds without places", 0, x::run);
        Check.square(x, 0, 0, 0);
        Check.due("a place of two kinds", 2, x::run);
        Check.due("the same again", 2, x::run);
        Check.square(x, 0, 2, 0);
        Check.due("two places", 4, x::run);
        Check.square(x, 0, 1, 0);
        Check.due("one again", 2, x::run);
    }

    private static void noTextWasRead() {
        DeviceFind x = new DeviceFind(1);
        Check.due("a new object", STATE, x::run);
        Check.square(x, 0, 0, 0);
        Check.tape(x, "input a=0;wire a;");
        Check.due("a text that is not read yet", STATE, x::run);
        Check.due("read", 0, x::read);
        Check.due("run", 0, x::run);
        DeviceFind wrong = new DeviceFind(1);
        Check.same("a wrong text", -1, Check.read(wrong, "wires a;"));
        Check.due("only a wrong text", STATE, wrong::run);
        Check.due("the empty text", 0, wrong::read);
        Check.due("run", 0, wrong::run);
        Check.same("a wrong text", -1, Check.read(wrong, "wires a;"));
        Check.due("a right one, then a wrong one", 0, wrong::run);
    }

    /** Columns of input 0 and rows of input 1 that cross in single squares, the devices' places. */
    private static DeviceFind grid(int columns, int rows, String more) {
        DeviceFind x = new DeviceFind(3);
        Check.same("read", true, Check.read(x, "input a=0;input b=1;make c=a and b;wire c;device d=c pins c;" + more) > 0);
        for (int k = 0; k < columns; k++) {
            Check.rectangle(x, 0, 2 * k, 0, 1, 64);
        }
        for (int k = 0; k < rows; k++) {
            Check.rectangle(x, 1, 0, 2 * k, 64, 1);
        }
        return x;
    }

    /** One place more, beyond a grid of at most 31 times 31. */
    private static void onePlaceMore(DeviceFind x) {
        Check.square(x, 0, 63, 63);
        Check.square(x, 1, 63, 63);
    }

    private static void moreThanThreeHundred() {
        DeviceFind x = grid(13, 23, "");
        Check.due("299 devices", 299, x::run);
        onePlaceMore(x);
        Check.due("300 devices", 300, x::run);
        Check.due("the last one", 63, () -> x.device(299, 3));
        Check.square(x, 0, 61, 61);
        Check.square(x, 1, 61, 61);
        Check.due("301 devices", UNSUPPORTED, x::run);
        DeviceFind kinds = grid(10, 15, "device e=c pins c;");
        Check.due("twice 150 devices", 300, kinds::run);
        onePlaceMore(kinds);
        Check.due("twice 151 devices", UNSUPPORTED, kinds::run);
        DeviceFind nets = grid(17, 18, "");
        Check.due("306 devices", UNSUPPORTED, nets::run);
        Check.same("read", 0, Check.read(nets, "input a=0;input b=1;make c=a and b;wire c;"));
        Check.due("306 nets", 0, nets::run);
        Check.due("306 nets", 306, () -> nets.count(5));
    }

    private static void nothingIsFound() {
        DeviceFind x = grid(17, 18, "");
        Check.due("306 devices", UNSUPPORTED, x::run);
        Check.due("devices", 0, () -> x.count(4));
        Check.due("nets", 0, () -> x.count(5));
        Check.due("device", STATE, () -> x.device(0, 0));
        Check.due("size", STATE, () -> x.size(0, 0));
        Check.due("pin", STATE, () -> x.pin(0, 0));
        Check.due("net", STATE, () -> x.net(0, 0, 0));
        Check.due("named", STATE, () -> x.named(0));
        Check.due("twice", STATE, () -> x.twice(0));
        Check.due("bad", STATE, () -> x.bad(0));
        Check.due("joined", STATE, () -> x.joined(0));
        Check.due("306 devices again", UNSUPPORTED, x::run);
        Check.due("net", STATE, () -> x.net(0, 0, 0));
    }

    private static void earlierIsGone() {
        DeviceFind x = grid(15, 20, "");
        Check.due("300 devices", 300, x::run);
        onePlaceMore(x);
        Check.due("301 devices", UNSUPPORTED, x::run);
        Check.due("devices", 0, () -> x.count(4));
        Check.due("nets", 0, () -> x.count(5));
        Check.due("device", STATE, () -> x.device(0, 0));
        Check.due("net", STATE, () -> x.net(0, 0, 0));
        Check.due("named", STATE, () -> x.named(0));
    }

    /** The text, the polygons and the texts are there, and a run() of a smaller layer finds as ever. */
    private static void asIfNone() {
        DeviceFind x = grid(17, 18, "");
        x.text(0, 0, 0, 8);
        Check.due("306 devices", UNSUPPORTED, x::run);
        int[] counts = {3, 1, 0, 1, 0, 0, 35, 1, 0};
        for (int what = 0; what < counts.length; what++) {
            int w = what;
            Check.due("count " + what, counts[what], () -> x.count(w));
        }
        Check.same("read", 1, Check.read(x, "input a=0;wire a;device d=a pins a;"));
        Check.due("17 devices", 17, x::run);
        Check.due("a name", 8, () -> x.named(0));
        Check.due("joined", 17, () -> x.joined(0));
        for (int k = 0; k < 17; k++) {
            sizesOf(x, k, 64, 130, 0);
            pins(x, k, k);
            bad(x, 0, k);
        }
    }
}

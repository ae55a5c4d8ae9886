/** Promises 8 to 17: what run() finds and how it is asked for. */
public final class FindTest {
    private static final String BOUNDS = "throws.IndexOutOfBoundsException";
    private static final String STATE = "throws.IllegalStateException";
    private static final String UNSUPPORTED = "throws.UnsupportedOperationException";

    public static void main(String[] args) {
        needsRun();
        orderOfThrows();
        shapesInOrder();
        madeLayers();
        devices();
        sizes();
        sizesAtEdges();
        pins();
        pinsOfOneWire();
        badDevices();
        nets();
        netsOverShapes();
        names();
        twiceNamed();
        joinedDevices();
        tooManyDevices();
        manyNets();
        runsOneAfterAnother();
        layersAnew();
        mostOfAll();
        Check.end();
    }

    private static void needsRun() {
        DeviceFind x = new DeviceFind(1);
        Check.due("run() without a text", STATE, x::run);
        Check.same("read", 1, Check.read(x, "input a=0;wire a;device d=a pins a;"));
        Check.rectangle(x, 0, 3, 4, 2, 2);
        Check.due("device() without run()", STATE, () -> x.device(0, 0));
        Check.due("size() without run()", STATE, () -> x.size(0, 0));
        Check.due("pin() without run()", STATE, () -> x.pin(0, 0));
        Check.due("net() without run()", STATE, () -> x.net(0, 0, 0));
        Check.due("named() without run()", STATE, () -> x.named(0));
        Check.due("twice() without run()", STATE, () -> x.twice(0));
        Check.due("bad() without run()", STATE, () -> x.bad(0));
        Check.due("joined() without run()", STATE, () -> x.joined(0));
        Check.due("devices without run()", 0, () -> x.count(4));
        Check.due("nets without run()", 0, () -> x.count(5));
        Check.due("run()", 1, x::run);
        Check.due("run() again", 1, x::run);
        Check.due("devices", 1, () -> x.count(4));
        Check.due("nets", 1, () -> x.count(5));
        for (int what : new int[] {Integer.MIN_VALUE, -1, 9, Integer.MAX_VALUE}) {
            Check.due("count(" + what + ")", BOUNDS, () -> x.count(what));
        }
    }

    private static void orderOfThrows() {
        DeviceFind x = new DeviceFind(1);
        Check.same("read", 1, Check.read(x, "input a=0;wire a;device d=a pins a;"));
        Check.rectangle(x, 0, 3, 4, 2, 2);
        for (int turn = 0; turn < 2; turn++) {
            String later = turn == 0 ? STATE : BOUNDS;
            for (int no : new int[] {-1, 9, Integer.MIN_VALUE, Integer.MAX_VALUE}) {
                Check.due("device of no what", BOUNDS, () -> x.device(0, no));
                Check.due("no device", later, () -> x.device(no, 0));
                Check.due("size of no which", BOUNDS, () -> x.size(0, no));
                Check.due("size of no device", later, () -> x.size(no, 0));
                Check.due("pin of no device", later, () -> x.pin(no, 0));
                Check.due("no pin", later, () -> x.pin(0, no));
                Check.due("net of no wire", later, () -> x.net(no, 0, 0));
                Check.due("name of no net", later, () -> x.named(no));
                Check.due("joined of no kind", later, () -> x.joined(no));
            }
            for (long no : new long[] {-1, 64, 1L << 32, Long.MIN_VALUE}) {
                Check.due("net of no square", BOUNDS, () -> x.net(0, no, 0));
                Check.due("net of no square", BOUNDS, () -> x.net(0, 0, no));
            }
            Check.due("device what 5", BOUNDS, () -> x.device(0, 5));
            Check.due("size which 3", BOUNDS, () -> x.size(0, 3));
            Check.due("device 1", later, () -> x.device(1, 0));
            Check.due("size of device 1", later, () -> x.size(1, 0));
            Check.due("pin of device 1", later, () -> x.pin(1, 0));
            Check.due("pin 1", later, () -> x.pin(0, 1));
            Check.due("net of wire 1", later, () -> x.net(1, 0, 0));
            Check.due("name of net 1", later, () -> x.named(1));
            Check.due("joined of kind 1", later, () -> x.joined(1));
            Check.due("twice(-1)", BOUNDS, () -> x.twice(-1));
            Check.due("bad(-1)", BOUNDS, () -> x.bad(-1));
            Check.due("run", 1, x::run);
        }
        Check.due("twice(MAX)", -1, () -> x.twice(Integer.MAX_VALUE));
        Check.due("bad(MAX)", -1, () -> x.bad(Integer.MAX_VALUE));
    }

    private static void place(DeviceFind x, int device, int kind, int shape, int column, int row) {
        int[] want = {kind, shape, x.device(device, 2), column, row};
        for (int what = 0; what < 5; what++) {
            int w = what;
            Check.due("device " + device + " what " + what, want[what], () -> x.device(device, w));
        }
    }

    private static void shapesInOrder() {
        DeviceFind x = Check.reading(1, 1, "input a=0;wire a;device d=a pins a;");
        Check.rectangle(x, 0, 0, 10, 1, 2);
        Check.rectangle(x, 0, 30, 5, 2, 1);
        // its leftmost square is far left of its lowest row
        Check.polygon(x, 0, 40, 5, 41, 5, 41, 8, 20, 8, 20, 7, 40, 7);
        Check.rectangle(x, 0, 35, 5, 2, 1);
        // at corners alone shapes do not hang together
        Check.rectangle(x, 0, 50, 20, 1, 1);
        Check.rectangle(x, 0, 51, 21, 1, 1);
        Check.rectangle(x, 0, 49, 21, 1, 1);
        // nor over the plane's end
        Check.rectangle(x, 0, 63, 40, 1, 1);
        Check.rectangle(x, 0, 0, 41, 1, 1);
        Check.rectangle(x, 0, 0, 50, 1, 1);
        Check.rectangle(x, 0, 63, 50, 1, 1);
        Check.due("run", 11, x::run);
        place(x, 0, 0, 0, 30, 5);
        place(x, 1, 0, 1, 35, 5);
        place(x, 2, 0, 2, 40, 5);
        place(x, 3, 0, 3, 0, 10);
        place(x, 4, 0, 4, 50, 20);
        place(x, 5, 0, 5, 49, 21);
        place(x, 6, 0, 6, 51, 21);
        place(x, 7, 0, 7, 63, 40);
        place(x, 8, 0, 8, 0, 41);
        place(x, 9, 0, 9, 0, 50);
        place(x, 10, 0, 10, 63, 50);
        sizesOf(x, 9, 1, 4, 0);
        sizesOf(x, 10, 1, 4, 0);
        Check.due("net of a shape", 2, () -> x.net(0, 20, 7));
    }

    private static void madeLayers() {
        DeviceFind x = Check.reading(2, 0, "input a=0;input b=1;make c=a and b;make d=a or b;make e=a less b;"
                + "make f=b less a;make g=e or f;make h=a and a;make i=a less a;"
                + "wire c;wire d;wire e;wire f;wire g;wire h;wire i;");
        Check.rectangle(x, 0, 0, 0, 2, 1);
        Check.rectangle(x, 1, 1, 0, 2, 1);
        x.run();
        String[] want = {".#..", "###.", "#...", "..#.", "#.#.", "##..", "...."};
        for (int wire = 0; wire < want.length; wire++) {
            for (int column = 0; column < 4; column++) {
                boolean is = x.net(wire, column, 0) != DeviceFind.NONE;
                Check.same("wire " + wire + " at " + column, want[wire].charAt(column) == '#', is);
            }
        }
        Check.due("nets by wires, then shapes", 4, () -> x.net(4, 0, 0));
        Check.due("nets by wires, then shapes", 5, () -> x.net(4, 2, 0));
        Check.due("nets", 7, () -> x.count(5));
    }

    private static void devices() {
        DeviceFind x = Check.reading(2, 3, "input a=0;input b=1;wire a;wire b;"
                + "device q=b pins a;device p=a pins b;device r=b pins b;");
        Check.rectangle(x, 0, 0, 0, 2, 2);
        Check.rectangle(x, 0, 8, 0, 2, 2);
        Check.rectangle(x, 1, 2, 0, 2, 2);
        Check.due("run", 4, x::run);
        Check.due("devices", 4, () -> x.count(4));
        place(x, 0, 0, 0, 2, 0);
        place(x, 1, 1, 0, 0, 0);
        place(x, 2, 1, 1, 8, 0);
        place(x, 3, 2, 0, 2, 0);
        int[] bad = {0, 0, 1, 0};
        for (int device = 0; device < 4; device++) {
            int d = device;
            Check.due("bad " + device, bad[device], () -> x.device(d, 2));
        }
        Check.due("device 4", BOUNDS, () -> x.device(4, 0));
    }

    private static void sizesOf(DeviceFind x, int device, long squares, long edges, long toPin) {
        long[] want = {squares, edges, toPin};
        for (int which = 0; which < 3; which++) {
            int w = which;
            Check.due("size " + which + " of device " + device, want[which], () -> x.size(device, w));
        }
    }

    private static void sizes() {
        DeviceFind x = Check.reading(3, 1, "input a=0;input b=1;input c=2;wire b;wire c;device d=a pins b c;");
        // a ring round one square
        Check.polygon(x, 0, 10, 10, 13, 10, 13, 13, 10, 13);
        Check.rectangle(x, 1, 11, 11, 1, 5);
        Check.rectangle(x, 2, 13, 10, 3, 3);
        Check.due("run", 1, x::run);
        sizesOf(x, 0, 9, 12, 1);
        DeviceFind ring = Check.reading(2, 1, "input a=0;input b=1;make c=a less b;wire b;device d=c pins b;");
        Check.rectangle(ring, 0, 10, 10, 3, 3);
        Check.rectangle(ring, 1, 11, 11, 1, 1);
        Check.due("run", 1, ring::run);
        sizesOf(ring, 0, 8, 16, 4);
        DeviceFind around = Check.reading(2, 1, "input a=0;input b=1;wire b;device d=a pins b;");
        Check.rectangle(around, 0, 10, 10, 2, 3);
        Check.rectangle(around, 1, 8, 8, 8, 8);
        Check.due("run", 1, around::run);
        sizesOf(around, 0, 6, 10, 10);
        DeviceFind notch = Check.reading(2, 1, "input a=0;input b=1;wire b;device d=a pins b;");
        Check.polygon(notch, 0, 10, 10, 13, 10, 13, 12, 12, 12, 12, 11, 11, 11, 11, 12, 10, 12);
        Check.rectangle(notch, 1, 11, 11, 1, 2);
        Check.due("run", 1, notch::run);
        sizesOf(notch, 0, 5, 12, 3);
        DeviceFind same = Check.reading(1, 1, "input a=0;wire a;device d=a pins a;");
        Check.rectangle(same, 0, 1, 1, 3, 3);
        Check.due("run", 1, same::run);
        sizesOf(same, 0, 9, 12, 0);
    }

    private static void sizesAtEdges() {
        DeviceFind x = Check.reading(2, 1, "input a=0;input b=1;wire b;device d=a pins b;");
        Check.rectangle(x, 0, 0, 0, 64, 64);
        Check.due("run", 1, x::run);
        sizesOf(x, 0, 4096, 256, 0);
        DeviceFind corners = Check.reading(2, 1, "input a=0;input b=1;wire b;device d=a pins b;");
        Check.rectangle(corners, 0, 0, 0, 1, 1);
        Check.rectangle(corners, 0, 63, 0, 1, 1);
        Check.rectangle(corners, 0, 0, 63, 1, 1);
        Check.rectangle(corners, 0, 63, 63, 1, 1);
        Check.rectangle(corners, 1, 62, 63, 1, 1);
        Check.rectangle(corners, 1, 63, 1, 1, 1);
        Check.rectangle(corners, 1, 0, 1, 1, 1);
        Check.due("run", 4, corners::run);
        sizesOf(corners, 0, 1, 4, 1);
        sizesOf(corners, 1, 1, 4, 1);
        sizesOf(corners, 2, 1, 4, 0);
        sizesOf(corners, 3, 1, 4, 1);
        Check.due("touches nothing", 1, () -> corners.device(2, 2));
    }

    private static void pins() {
        DeviceFind x = Check.reading(4, 2, "input a=0;input b=1;input c=2;input d=3;wire b;wire c;wire d;"
                + "device p=a pins d b;device q=a pins c;");
        Check.rectangle(x, 0, 10, 10, 2, 2);
        Check.rectangle(x, 1, 12, 12, 2, 2); // at a corner alone
        Check.rectangle(x, 1, 12, 9, 2, 2);
        Check.rectangle(x, 2, 30, 30, 1, 1);
        Check.rectangle(x, 3, 10, 10, 1, 1);
        Check.due("run", 2, x::run);
        Check.due("a square in common", 3, () -> x.pin(0, 0));
        Check.due("a square beside", 0, () -> x.pin(0, 1));
        Check.due("not bad: a corner in common is no touch", 0, () -> x.device(0, 2));
        Check.due("a third pin", BOUNDS, () -> x.pin(0, 2));
        Check.due("an open pin", -1, () -> x.pin(1, 0));
        Check.due("a second pin", BOUNDS, () -> x.pin(1, 1));
        Check.due("an open pin is bad", 1, () -> x.device(1, 2));
        Check.due("the edges to the first pin", 0, () -> x.size(1, 2));
    }

    private static void pinsOfOneWire() {
        DeviceFind x = Check.reading(3, 2, "input a=0;input b=1;input c=2;wire b;wire c;"
                + "device p=a pins b c b b;device q=a pins b b b b;");
        Check.rectangle(x, 0, 10, 10, 5, 1);
        Check.rectangle(x, 1, 14, 11, 1, 1);
        Check.rectangle(x, 1, 12, 11, 1, 1);
        Check.rectangle(x, 1, 10, 8, 1, 2);
        Check.rectangle(x, 2, 15, 10, 1, 1);
        Check.due("run", 2, x::run);
        int[] first = {0, 3, 1, 2};
        int[] second = {0, 1, 2, -1};
        for (int k = 0; k < 4; k++) {
            int pin = k;
            Check.due("pin " + k, first[k], () -> x.pin(0, pin));
            Check.due("pin " + k, second[k], () -> x.pin(1, pin));
        }
        Check.due("good", 0, () -> x.device(0, 2));
        Check.due("bad", 1, () -> x.device(1, 2));
        Check.due("the edges to the first pin", 1, () -> x.size(0, 2));
    }

    private static void badDevices() {
        DeviceFind x = Check.reading(3, 1, "input a=0;input b=1;input c=2;wire b;wire c;device p=a pins b;");
        Check.rectangle(x, 0, 0, 0, 2, 1); // good: the other wire is not of its pins'
        Check.rectangle(x, 1, 0, 1, 1, 1);
        Check.rectangle(x, 2, 1, 1, 1, 1);
        Check.rectangle(x, 0, 10, 0, 2, 1); // bad: open
        Check.rectangle(x, 0, 20, 0, 3, 1); // bad: one shape too many
        Check.rectangle(x, 1, 20, 1, 1, 1);
        Check.rectangle(x, 1, 22, 1, 1, 1);
        Check.rectangle(x, 0, 30, 0, 3, 1); // good: one shape touches twice
        Check.polygon(x, 1, 30, 1, 31, 1, 31, 2, 32, 2, 32, 1, 33, 1, 33, 3, 30, 3);
        Check.rectangle(x, 0, 40, 0, 3, 1); // bad: open
        Check.due("run", 5, x::run);
        int[] bad = {1, 2, 4, -1, -1};
        for (int k = 0; k < 5; k++) {
            int at = k;
            Check.due("bad(" + k + ")", bad[k], () -> x.bad(at));
        }
        Check.due("the pin of one with too many", 1, () -> x.pin(2, 0));
        Check.due("its edges to the first pin alone", 1, () -> x.size(2, 2));
        Check.due("two edges to one shape", 2, () -> x.size(3, 2));
        Check.due("joined: bad ones are none", 2, () -> x.joined(0));
    }

    private static void nets() {
        DeviceFind x = Check.reading(3, 0, "input a=0;input b=1;input c=2;wire b;wire a;join a b by c;");
        Check.rectangle(x, 0, 0, 0, 2, 1);
        Check.rectangle(x, 0, 4, 0, 2, 1);
        Check.rectangle(x, 0, 8, 0, 2, 1);
        Check.rectangle(x, 1, 0, 3, 9, 1);
        Check.rectangle(x, 1, 20, 3, 1, 1);
        Check.rectangle(x, 2, 1, 0, 1, 4); // from the first one to the long one
        Check.rectangle(x, 2, 8, 1, 1, 3); // only beside the third one
        Check.rectangle(x, 2, 5, 0, 1, 3); // only beside the long one
        Check.due("run", 0, x::run);
        Check.due("nets", 4, () -> x.count(5));
        Check.due("nets by their least nodes: wire b is first", 0, () -> x.net(0, 0, 3));
        Check.due("joined to it", 0, () -> x.net(1, 0, 0));
        Check.due("alone", 1, () -> x.net(0, 20, 3));
        Check.due("beside is not in common", 2, () -> x.net(1, 4, 0));
        Check.due("beside is not in common", 3, () -> x.net(1, 8, 0));
        Check.due("a square of no shape", -1, () -> x.net(1, 0, 3));
        Check.due("no such wire", BOUNDS, () -> x.net(2, 0, 0));
    }

    private static void netsOverShapes() {
        // one shape joins all that it meets, also of one wire, and of wires that are one
        DeviceFind x = Check.reading(3, 0, "input a=0;input b=1;input c=2;wire a;wire b;join a a by c;");
        Check.rectangle(x, 0, 0, 0, 1, 1);
        Check.rectangle(x, 0, 2, 0, 1, 1);
        Check.rectangle(x, 0, 4, 0, 1, 1);
        Check.rectangle(x, 0, 6, 0, 1, 1);
        Check.rectangle(x, 1, 6, 0, 1, 1);
        Check.rectangle(x, 2, 0, 0, 3, 1);
        Check.rectangle(x, 2, 4, 0, 1, 1);
        Check.due("run", 0, x::run);
        int[] want = {0, 0, 1, 2};
        for (int k = 0; k < 4; k++) {
            int column = 2 * k;
            Check.due("net at " + column, want[k], () -> x.net(0, column, 0));
        }
        Check.due("a wire that is not joined", 3, () -> x.net(1, 6, 0));
        // later joins make earlier nets one
        DeviceFind chain = Check.reading(4, 0, "input a=0;input b=1;input c=2;input d=3;wire a;wire b;"
                + "join a b by c;join b a by d;");
        for (int k = 0; k < 4; k++) {
            Check.rectangle(chain, 0, 4 * k, 0, 3, 1);
            Check.rectangle(chain, 1, 4 * k, 0, 3, 1);
        }
        Check.rectangle(chain, 2, 8, 0, 7, 1);
        Check.rectangle(chain, 3, 0, 0, 1, 1);
        Check.rectangle(chain, 3, 6, 0, 3, 1);
        Check.due("run", 0, chain::run);
        Check.due("nets", 2, () -> chain.count(5));
        int[] linked = {0, 1, 1, 1};
        for (int k = 0; k < 4; k++) {
            int column = 4 * k;
            Check.due("net at " + column, linked[k], () -> chain.net(0, column, 0));
            Check.due("net at " + column, linked[k], () -> chain.net(1, column, 0));
        }
    }

    private static void names() {
        DeviceFind x = Check.reading(2, 0, "input a=0;input b=1;wire a;wire b;join a b by b;");
        Check.rectangle(x, 0, 0, 0, 2, 1);
        Check.rectangle(x, 0, 4, 0, 2, 1);
        Check.rectangle(x, 1, 5, 0, 2, 1);
        x.text(1, 6, 0, 9);
        x.text(0, 4, 0, 5);
        x.text(0, 5, 0, 7);
        x.text(0, 6, 0, 1); // in no shape of that wire
        x.text(2, 4, 0, 2); // no such wire
        x.text(7, 4, 0, 3);
        x.run();
        Check.due("nets", 2, () -> x.count(5));
        Check.due("a net without a name", -1, () -> x.named(0));
        Check.due("the least name", 5, () -> x.named(1));
        Check.due("net 2", BOUNDS, () -> x.named(2));
        Check.same("read", 0, Check.read(x, "input b=1;wire b;input a=0;make c=a or b;wire a;wire c;"));
        x.run();
        Check.due("texts are for a wire's number", 1, () -> x.named(x.net(0, 5, 0)));
        Check.due("texts are for a wire's number", -1, () -> x.named(x.net(1, 5, 0)));
        Check.due("texts are for a wire's number", 2, () -> x.named(x.net(2, 5, 0)));
    }

    private static void twiceNamed() {
        DeviceFind once = Check.reading(1, 0, "input a=0;wire a;");
        Check.rectangle(once, 0, 0, 0, 1, 1);
        once.text(0, 0, 0, 5);
        once.run();
        Check.due("one name", 5, () -> once.named(0));
        Check.due("one name", -1, () -> once.twice(0));
        once.text(0, 0, 0, 5);
        once.run();
        Check.due("one name, told twice", -1, () -> once.twice(0));
        once.text(0, 0, 0, 6);
        once.run();
        Check.due("two names", 5, () -> once.named(0));
        Check.due("two names", 0, () -> once.twice(0));
        Check.due("two names", -1, () -> once.twice(1));
        DeviceFind x = Check.reading(1, 0, "input a=0;wire a;");
        for (int k = 0; k < 10; k++) {
            Check.rectangle(x, 0, 2 * k, 0, 1, 1);
        }
        for (int k = 9; k >= 0; k--) {
            x.text(0, 2 * k, 0, k);
            x.text(0, 2 * k, 0, k % 3 == 0 ? k : k + 1);
            x.text(0, 2 * k, 0, k);
        }
        x.text(0, 0, 0, 0);
        x.run();
        int[] want = {1, 2, 4, 5, 7, 8, -1, -1};
        for (int k = 0; k < want.length; k++) {
            int at = k;
            Check.due("twice(" + k + ")", want[k], () -> x.twice(at));
        }
        Check.due("the name 0", 0, () -> x.named(0));
        Check.due("the least of two", 8, () -> x.named(8));
        Check.due("twice(40)", -1, () -> x.twice(40));
        DeviceFind most = Check.reading(1, 0, "input a=0;wire a;");
        for (int k = 0; k < 20; k++) {
            Check.rectangle(most, 0, 2 * k, 0, 1, 1);
            most.text(0, 2 * k, 0, 1);
            most.text(0, 2 * k, 0, 0);
        }
        most.run();
        Check.due("the 20th that is twice named", 19, () -> most.twice(19));
        Check.due("the 21st", -1, () -> most.twice(20));
    }

    private static void joinedDevices() {
        DeviceFind x = Check.reading(4, 3, "input a=0;input b=1;input c=2;input e=3;wire b;wire c;join b b by e;"
                + "device d=a pins b c;device f=a pins b;device g=e pins c;");
        // three places between the same nets, by way of a join; one between others; one bad
        Check.rectangle(x, 2, 0, 4, 20, 1);
        Check.rectangle(x, 1, 0, 2, 10, 1);
        Check.rectangle(x, 1, 12, 2, 2, 1);
        Check.rectangle(x, 3, 9, 2, 4, 1);
        Check.rectangle(x, 1, 16, 2, 2, 1);
        for (int column : new int[] {0, 3, 12, 16}) {
            Check.rectangle(x, 0, column, 3, 1, 1);
        }
        Check.rectangle(x, 0, 19, 3, 1, 1);
        Check.due("run", 11, x::run);
        Check.due("bad", 4, () -> x.bad(0));
        Check.due("joined(0)", 2, () -> x.joined(0));
        Check.due("joined(1)", 2, () -> x.joined(1));
        Check.due("joined(2)", 0, () -> x.joined(2));
        // the same nets at other pins are others
        DeviceFind turned = Check.reading(3, 1, "input a=0;input b=1;input e=2;wire b;join b b by e;device d=a pins b b;");
        Check.rectangle(turned, 0, 1, 0, 1, 1);
        Check.rectangle(turned, 1, 0, 0, 1, 1);
        Check.rectangle(turned, 1, 2, 0, 1, 1);
        Check.rectangle(turned, 0, 1, 4, 1, 1);
        Check.rectangle(turned, 1, 0, 4, 1, 1);
        Check.rectangle(turned, 1, 2, 4, 1, 1);
        Check.polygon(turned, 2, 0, 0, 1, 0, 1, 2, 4, 2, 4, 5, 2, 5, 2, 4, 3, 4, 3, 3, 0, 3);
        Check.polygon(turned, 2, 2, 0, 7, 0, 7, 8, 0, 8, 0, 4, 1, 4, 1, 7, 6, 7, 6, 1, 2, 1);
        Check.due("run", 2, turned::run);
        Check.due("nets", 2, () -> turned.count(5));
        int[] nets = {turned.pin(0, 0), turned.pin(0, 1), turned.pin(1, 0), turned.pin(1, 1)};
        Check.same("pins", "0 1 1 0", nets[0] + " " + nets[1] + " " + nets[2] + " " + nets[3]);
        Check.due("pin by pin", 2, () -> turned.joined(0));
    }

    /** Columns of input 0 and rows of input 1 that cross in single squares, 32 of each at most. */
    private static void grid(DeviceFind x, int columns, int rows) {
        for (int k = 0; k < columns; k++) {
            Check.rectangle(x, 0, 2 * k, 0, 1, 64);
        }
        for (int k = 0; k < rows; k++) {
            Check.rectangle(x, 1, 0, 2 * k, 64, 1);
        }
    }

    private static void tooManyDevices() {
        String text = "input a=0;input b=1;make c=a and b;wire c;device d=c pins c;";
        DeviceFind most = Check.reading(2, 1, text);
        grid(most, 15, 20);
        Check.due("run with 300", 300, most::run);
        Check.due("the last device", 299, () -> most.device(299, 1));
        Check.due("its place", 28, () -> most.device(299, 3));
        Check.due("its place", 38, () -> most.device(299, 4));
        Check.due("all joined", 300, () -> most.joined(0));
        Check.rectangle(most, 0, 63, 40, 1, 1);
        Check.rectangle(most, 1, 63, 40, 1, 1);
        Check.due("run with 301", UNSUPPORTED, most::run);
        Check.due("run with 301 again", UNSUPPORTED, most::run);
        Check.due("nothing is found", STATE, () -> most.device(0, 0));
        Check.due("nothing is found", STATE, () -> most.net(0, 0, 0));
        Check.due("nothing is found", 0, () -> most.count(4));
        Check.due("nothing is found", 0, () -> most.count(5));
        Check.due("the text is there", 1, () -> most.count(3));
        Check.due("the polygons are there", 37, () -> most.count(6));
        Check.same("a text without devices", 0, Check.read(most, "input a=0;wire a;"));
        Check.due("run", 0, most::run);
        Check.due("nets", 16, () -> most.count(5));
        // devices of several kinds count together
        DeviceFind kinds = Check.reading(2, 2, text + "device e=a pins c;");
        grid(kinds, 15, 19);
        Check.due("run with 285 + 15", 300, kinds::run);
        Check.rectangle(kinds, 0, 62, 63, 1, 1);
        Check.due("run with 285 + 16", UNSUPPORTED, kinds::run);
    }

    /** A plane of as many shapes as there can be, on as many wires. */
    private static void manyNets() {
        StringBuilder text = new StringBuilder("input a=0;input b=1;make e=a less b;make f=b less a;make w=e or f;");
        for (char wire = 'g'; wire < 'n'; wire++) {
            text.append("make ").append(wire).append("=w or w;wire ").append(wire).append(';');
        }
        DeviceFind x = Check.reading(2, 1, text.append("wire w;device d=w pins w;").toString());
        for (int comb = 0; comb < 8; comb++) {
            combs(x, comb * 8);
        }
        Check.due("too many", UNSUPPORTED, x::run);
        Check.same("read", 0, Check.read(x, text.toString().replace("device d=w pins w;", "join w w by w;")));
        Check.due("run", 0, x::run);
        Check.due("nets", 8 * 2048, () -> x.count(5));
        Check.due("the last net", 8 * 2048 - 1, () -> x.net(7, x.net(7, 63, 63) < 0 ? 62 : 63, 63));
        Check.due("the last net has no name", -1, () -> x.named(8 * 2048 - 1));
    }

    /** Nothing of an earlier run() is left in a later one. */
    private static void runsOneAfterAnother() {
        DeviceFind x = Check.reading(3, 1, "input a=0;input b=1;input c=2;wire b;device d=a pins b;");
        Check.rectangle(x, 0, 0, 0, 1, 1);
        Check.rectangle(x, 0, 4, 0, 1, 1);
        Check.due("run", 2, x::run);
        Check.due("both are bad", 0, () -> x.bad(0));
        Check.due("both are bad", 1, () -> x.bad(1));
        Check.due("both are bad", -1, () -> x.bad(2));
        Check.due("both are bad", 0, () -> x.joined(0));
        Check.rectangle(x, 1, 0, 1, 5, 1);
        for (int turn = 0; turn < 3; turn++) {
            x.text(7, 0, 0, 0);
            Check.due("run", 2, x::run);
            Check.due("none is bad", -1, () -> x.bad(0));
            Check.due("parallel ones", 1, () -> x.joined(0));
        }
        Check.rectangle(x, 0, 0, 0, 5, 1);
        Check.due("run", 1, x::run);
        Check.due("good", -1, () -> x.bad(0));
        sizesOf(x, 0, 5, 12, 5);
        Check.due("no more devices", BOUNDS, () -> x.device(1, 0));
        Check.same("read", 1, Check.read(x, "input a=0;input b=2;wire b;device d=a pins b;"));
        Check.due("run", 1, x::run);
        Check.due("bad", 0, () -> x.bad(0));
        Check.due("bad", -1, () -> x.bad(1));
    }

    private static void layersAnew() {
        DeviceFind x = Check.reading(2, 1, "input a=0;wire a;device d=a pins a;");
        Check.rectangle(x, 0, 0, 0, 9, 9);
        Check.rectangle(x, 1, 20, 20, 1, 1);
        Check.due("run", 1, x::run);
        for (int turn = 0; turn < 2; turn++) {
            Check.same("read", 1, Check.read(x, "input a=1;wire a;device d=a pins a;"));
            Check.due("run", 1, x::run);
            place(x, 0, 0, 0, 20, 20);
            sizesOf(x, 0, 1, 4, 0);
            Check.due("no net", -1, () -> x.net(0, 0, 0));
        }
        // what a run() that threw had at hand is not in the next one
        DeviceFind many = Check.reading(3, 1, "input a=0;input b=1;make c=a and b;wire c;device d=c pins c;");
        grid(many, 18, 18);
        Check.due("run", UNSUPPORTED, many::run);
        Check.same("read", 1, Check.read(many, "input a=0;input e=2;wire e;device d=a pins e;"));
        Check.due("run", 18, many::run);
        for (int device = 0; device < 18; device++) {
            place(many, device, 0, device, 2 * device, 0);
            sizesOf(many, device, 64, 130, 0);
        }
    }

    /** As many layers, wires, joins, kinds and polygons as there can be. */
    private static void mostOfAll() {
        StringBuilder text = new StringBuilder("input a=0;");
        for (char layer = 'b'; layer < 'y'; layer++) {
            text.append("make ").append(layer).append("=a or a;");
        }
        for (char wire = 'q'; wire < 'y'; wire++) {
            text.append("wire ").append(wire).append(';');
        }
        text.append("join q x by x;".repeat(14)).append("join r w by x;join s v by x;");
        DeviceFind x = Check.reading(1, 0, text.toString());
        for (int k = 0; k < 59; k++) {
            Check.rectangle(x, 0, k, k, 1, 1);
        }
        Check.rectangle(x, 0, 63, 63, 1, 1);
        int[] counts = {24, 8, 16, 0, 0, 0, 60};
        for (int what = 0; what < counts.length; what++) {
            int w = what;
            Check.due("count " + what, counts[what], () -> x.count(w));
        }
        Check.due("run", 0, x::run);
        Check.due("nets", 5 * 60, () -> x.count(5));
        int[] firstNets = {0, 60, 120, 180, 240, 120, 60, 0};
        for (int wire = 0; wire < 8; wire++) {
            int w = wire;
            Check.due("net of wire " + wire, firstNets[wire], () -> x.net(w, 0, 0));
            Check.due("net of wire " + wire, firstNets[wire] + 59, () -> x.net(w, 63, 63));
        }
        DeviceFind kinds = Check.reading(1, 8, "input a=0;wire a;device a=a pins a;device b=a pins a;device c=a pins a;"
                + "device d=a pins a;device e=a pins a;device f=a pins a;device g=a pins a;device h=a pins a a a a;");
        for (int k = 0; k < 20; k++) {
            Check.rectangle(kinds, 0, 3 * k, k, 2, 1);
            kinds.text(0, 3 * k, k, k);
            kinds.text(0, 3 * k + 1, k, 19 - k);
        }
        Check.due("run", 160, kinds::run);
        Check.due("the last kind", 7, () -> kinds.device(159, 0));
        Check.due("its last pin", -1, () -> kinds.pin(159, 3));
        Check.due("its first pin", 19, () -> kinds.pin(159, 0));
        Check.due("joined", 20, () -> kinds.joined(6));
        Check.due("joined", 0, () -> kinds.joined(7));
        Check.due("bad", 140, () -> kinds.bad(0));
        Check.due("named by the last text", 0, () -> kinds.named(19));
        Check.due("twice named", 19, () -> kinds.twice(19));
    }

    /** Two polygons that go there and back eight times: the one has four columns, the other four rows. */
    private static void combs(DeviceFind x, int from) {
        int[] columns = new int[32];
        int[] rows = new int[32];
        for (int k = 0; k < 16; k++) {
            int along = from + k / 2;
            int across = k % 4 == 0 || k % 4 == 3 ? 64 : 0;
            columns[2 * k] = along;
            columns[2 * k + 1] = across;
            rows[2 * k] = across;
            rows[2 * k + 1] = along;
        }
        Check.polygon(x, 0, columns);
        Check.polygon(x, 1, rows);
    }
}

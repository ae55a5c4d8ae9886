import java.util.LinkedHashMap;
import java.util.Map;
import java.util.concurrent.Callable;
import java.util.function.Consumer;

/** A test of its own for each boundary case of the promises 9 to 17 and of what methods throw. */
public final class AnswerEdgesTest {
    private static final String BOUNDS = "throws.IndexOutOfBoundsException";
    private static final String STATE = "throws.IllegalStateException";
    private static final String ARGUMENT = "throws.IllegalArgumentException";
    private static final String UNSUPPORTED = "throws.UnsupportedOperationException";
    private static final int NONE = DeviceFind.NONE;
    private static final int[] FAR = {-1, Integer.MIN_VALUE, Integer.MAX_VALUE};

    public static void main(String[] args) {
        whatMethodsThrow();
        devicePromise();
        sizeAndPinPromises();
        netPromises();
        listPromises();
        countPromise();
        Check.end();
    }

    private static void whatMethodsThrow() {
        Check.sentence("An object is used for at most 512 calls", AnswerEdgesTest::fiveHundredTwelveCalls);
        Check.sentence("what needs a run(): there was none", AnswerEdgesTest::thereWasNone);
        Check.sentence("since the latest right read()", AnswerEdgesTest::sinceRightRead);
        Check.sentence("or polygons were changed since", AnswerEdgesTest::polygonsChanged);
        Check.sentence("or texts were changed since", AnswerEdgesTest::textsChanged);
        Check.sentence("a wrong read() is no right one", AnswerEdgesTest::wrongRead);
        Check.sentence("A call that throws changes nothing, when there was a run()", AnswerEdgesTest::throwsAfterRun);
        Check.sentence("A call that throws changes nothing, when there was none", AnswerEdgesTest::throwsBeforeRun);
        Check.sentence("A call that throws changes nothing, when all is full", AnswerEdgesTest::throwsWhenFull);
        Check.sentence("A call that throws changes nothing (but run(), as it tells)", AnswerEdgesTest::throwsOfRun);
    }

    private static void devicePromise() {
        Check.sentence("what = 0 its kind", AnswerEdgesTest::kindOfDevice);
        Check.sentence("1 the shape", AnswerEdgesTest::shapeOfDevice);
        Check.sentence("2 whether it is bad (1)", AnswerEdgesTest::whetherBad);
        Check.sentence("3 and 4 x and y of the place's first square (the leftmost one of its lowest row)",
                AnswerEdgesTest::firstSquare);
        Check.sentence("device: IndexOutOfBoundsException: of what", AnswerEdgesTest::noSuchWhat);
        Check.sentence("device: IndexOutOfBoundsException: of the device", AnswerEdgesTest::noSuchDevice);
        Check.sentence("device: of what; IllegalStateException; of the device", AnswerEdgesTest::deviceThrowsFirst);
    }

    private static void sizeAndPinPromises() {
        Check.sentence("which = 0 .. 2", AnswerEdgesTest::whichSizes);
        Check.sentence("size: IndexOutOfBoundsException: of which", AnswerEdgesTest::noSuchWhich);
        Check.sentence("size: IndexOutOfBoundsException: of the device", AnswerEdgesTest::noSuchDeviceOfSize);
        Check.sentence("size: of which; IllegalStateException; of the device", AnswerEdgesTest::sizeThrowsFirst);
        Check.sentence("The net of pin k", AnswerEdgesTest::netOfPin);
        Check.sentence("pin: NONE if it is open", AnswerEdgesTest::openPin);
        Check.sentence("pin: IndexOutOfBoundsException of the device", AnswerEdgesTest::noSuchDeviceOfPin);
        Check.sentence("pin: IndexOutOfBoundsException of the pin", AnswerEdgesTest::noSuchPin);
        Check.sentence("pin: IllegalStateException; IndexOutOfBoundsException", AnswerEdgesTest::pinThrowsFirst);
    }

    private static void netPromises() {
        Check.sentence("The net of a square on a wire", AnswerEdgesTest::netOfSquare);
        Check.sentence("net: NONE if it is not in it", AnswerEdgesTest::notInWire);
        Check.sentence("net: IndexOutOfBoundsException: of the square", AnswerEdgesTest::noSuchSquare);
        Check.sentence("net: IndexOutOfBoundsException: of the wire", AnswerEdgesTest::noSuchWire);
        Check.sentence("net: of the square; IllegalStateException; of the wire", AnswerEdgesTest::netThrowsFirst);
        Check.sentence("The name of a net; NONE without one", AnswerEdgesTest::withoutName);
        Check.sentence("named: IndexOutOfBoundsException", AnswerEdgesTest::noSuchNet);
        Check.sentence("named: IllegalStateException; IndexOutOfBoundsException", AnswerEdgesTest::namedThrowsFirst);
    }

    private static void listPromises() {
        Check.sentence("The k-th net that is twice named", AnswerEdgesTest::twiceNamed);
        Check.sentence("twice: NONE if there are not so many", AnswerEdgesTest::notSoManyTwice);
        Check.sentence("twice: IndexOutOfBoundsException: k is below 0", AnswerEdgesTest::twiceBelowZero);
        Check.sentence("twice: k is below 0; IllegalStateException", AnswerEdgesTest::twiceThrowsFirst);
        Check.sentence("The k-th device that is bad", AnswerEdgesTest::badDevices);
        Check.sentence("bad: NONE if there are not so many", AnswerEdgesTest::notSoManyBad);
        Check.sentence("bad: IndexOutOfBoundsException: k is below 0", AnswerEdgesTest::badBelowZero);
        Check.sentence("bad: k is below 0; IllegalStateException", AnswerEdgesTest::badThrowsFirst);
        Check.sentence("joined: of those that are not bad", AnswerEdgesTest::joinedNotBad);
        Check.sentence("joined: all with the same nets", AnswerEdgesTest::joinedSameNets);
        Check.sentence("joined: pin by pin", AnswerEdgesTest::joinedPinByPin);
        Check.sentence("joined: devices of a kind", AnswerEdgesTest::joinedOfKind);
        Check.sentence("joined: IndexOutOfBoundsException", AnswerEdgesTest::noSuchKind);
        Check.sentence("joined: IllegalStateException; IndexOutOfBoundsException", AnswerEdgesTest::joinedThrowsFirst);
    }

    private static void countPromise() {
        Check.sentence("0 layers, 1 wires, 2 joins, 3 kinds told by the text", AnswerEdgesTest::toldByText);
        Check.sentence("4 devices, 5 nets", AnswerEdgesTest::devicesAndNets);
        Check.sentence("0 when there was no run(), as above", AnswerEdgesTest::zeroWithoutRun);
        Check.sentence("6 polygons", AnswerEdgesTest::countOfPolygons);
        Check.sentence("7 texts", AnswerEdgesTest::countOfTexts);
        Check.sentence("8 characters on the tape", AnswerEdgesTest::countOfCharacters);
        Check.sentence("count: IndexOutOfBoundsException", AnswerEdgesTest::noSuchCount);
    }

    /**
     * Three wires (the third one has no squares), a join, two kinds; devices 0 and 2 are good, 1 and 3 are bad;
     * nets 0 .. 3, of which 1 is twice named and 0 has a name. There was no run() yet.
     */
    private static DeviceFind sample() {
        DeviceFind x = Check.reading(4, 2, "input p=0;input a=1;input b=2;input j=3;make e=a less a;"
                + "wire a;wire b;wire e;join a b by j;device d=p pins a b;device c=p pins b;");
        Check.rectangle(x, 0, 10, 10, 3, 2);
        Check.square(x, 1, 10, 9);
        Check.square(x, 2, 12, 12);
        Check.rectangle(x, 0, 20, 20, 2, 2);
        Check.rectangle(x, 1, 22, 20, 3, 1);
        Check.square(x, 2, 40, 20);
        Check.square(x, 3, 40, 20);
        x.text(0, 10, 9, 5);
        x.text(0, 24, 20, 9);
        x.text(0, 23, 20, 8);
        return x;
    }

    private static DeviceFind found() {
        DeviceFind x = sample();
        Check.due("run", 4, x::run);
        return x;
    }

    /** Every kind of call that needs a run(), each with an answer in the sample. */
    private static Map<String, Callable<?>> asking(DeviceFind x) {
        Map<String, Callable<?>> calls = new LinkedHashMap<>();
        calls.put("device", () -> x.device(0, 0));
        calls.put("size", () -> x.size(0, 0));
        calls.put("pin", () -> x.pin(0, 0));
        calls.put("net", () -> x.net(0, 0, 0));
        calls.put("named", () -> x.named(0));
        calls.put("twice", () -> x.twice(0));
        calls.put("bad", () -> x.bad(0));
        calls.put("joined", () -> x.joined(0));
        return calls;
    }

    private static void allNeedRun(DeviceFind x) {
        asking(x).forEach((what, call) -> Check.due(what + "() without a run()", STATE, call));
        Check.due("devices without a run()", 0, () -> x.count(4));
        Check.due("nets without a run()", 0, () -> x.count(5));
    }

    private static void noneNeedsRun(DeviceFind x) {
        asking(x).forEach((what, call) -> Check.same(what + "() throws", false, Check.answer(call).startsWith("throws")));
        Check.due("devices", 4, () -> x.count(4));
    }

    /** All that can be asked of an object of the sample's size. */
    private static String everything(DeviceFind x) {
        StringBuilder all = new StringBuilder();
        for (int what = 0; what < 9; what++) {
            int w = what;
            all.append(Check.answer(() -> x.count(w))).append(' ');
        }
        for (int k = 0; k < 4; k++) {
            int device = k;
            for (int j = 0; j < 5; j++) {
                int what = j;
                all.append(Check.answer(() -> x.device(device, what))).append(' ');
                all.append(what < 3 ? Check.answer(() -> x.size(device, what)) : "").append(' ');
                all.append(what < 2 ? Check.answer(() -> x.pin(device, what)) : "").append(' ');
            }
            all.append(Check.answer(() -> x.named(device))).append(' ');
            all.append(Check.answer(() -> x.twice(device))).append(' ');
            all.append(Check.answer(() -> x.bad(device))).append(' ');
            all.append(Check.answer(() -> x.joined(device))).append(' ');
        }
        int[][] squares = {{0, 10, 9}, {0, 23, 20}, {1, 12, 12}, {1, 40, 20}, {2, 0, 0}, {0, 0, 0}};
        for (int[] at : squares) {
            all.append(Check.answer(() -> x.net(at[0], at[1], at[2]))).append(' ');
        }
        return all.toString();
    }

    private static void fiveHundredTwelveCalls() {
        DeviceFind x = new DeviceFind(1);
        for (int k = 0; k < 500; k++) {
            int what = k % 10;
            Check.due("call " + k, what == 9 ? BOUNDS : 0, () -> x.count(what));
        }
        Check.tape(x, "input a=0;wire a;");
        Check.due("call 506", 0, x::read);
        Check.due("call 507", 0, () -> x.polygon(0));
        Check.due("call 508", 1, () -> x.corner(0, 0, 0));
        Check.due("call 509", 1, () -> x.text(0, 0, 0, 0));
        Check.due("call 510", 0, x::run);
        Check.due("call 511", NONE, () -> x.net(0, 0, 0));
        Check.due("call 512", 1, () -> x.unit(' '));
    }

    private static void thereWasNone() {
        allNeedRun(new DeviceFind(1));
        DeviceFind x = sample();
        allNeedRun(x);
        Check.due("run", 4, x::run);
        noneNeedsRun(x);
    }

    private static void sinceRightRead() {
        DeviceFind x = found();
        Check.same("the same kinds again", 2, Check.read(x, "input p=0;input a=1;input b=2;wire a;wire b;"
                + "device d=p pins a b;device c=p pins b;"));
        allNeedRun(x);
        Check.due("run", 4, x::run);
        noneNeedsRun(x);
        Check.due("the empty text", 0, x::read);
        allNeedRun(x);
    }

    private static void polygonsChanged() {
        DeviceFind x = found();
        Check.due("a new polygon", 7, () -> x.polygon(3));
        allNeedRun(x);
        for (int k = 0; k < 3; k++) {
            int at = k;
            x.run();
            noneNeedsRun(x);
            Check.due("a corner of a polygon that stays open", 1, () -> x.corner(7, 50 + at, 50));
            allNeedRun(x);
        }
        x.run();
        Check.due("a corner of an older polygon", 1, () -> x.corner(0, 10, 11));
        allNeedRun(x);
        x.run();
        noneNeedsRun(x);
    }

    private static void textsChanged() {
        DeviceFind x = found();
        Check.due("a text", 4, () -> x.text(1, 40, 20, 1));
        allNeedRun(x);
        x.run();
        noneNeedsRun(x);
        Check.due("a text for no wire", 5, () -> x.text(7, 0, 0, 1));
        allNeedRun(x);
        x.run();
        Check.due("the same text again", 6, () -> x.text(7, 0, 0, 1));
        allNeedRun(x);
    }

    private static void wrongRead() {
        DeviceFind x = found();
        String before = everything(x);
        for (String text : new String[] {"?", "input", "input a=4;", "wire a;"}) {
            Check.same("a wrong text", true, Check.read(x, text) < 0);
            noneNeedsRun(x);
        }
        Check.same("everything", before, everything(x));
        DeviceFind never = sample();
        Check.same("a wrong text", -1, Check.read(never, "?"));
        allNeedRun(never);
    }

    /** A call that throws on a new object, made by its maker, leaves all answers as they were. */
    private static void changesNothing(String want, DeviceFind x, Map<String, Consumer<DeviceFind>> calls) {
        String before = everything(x);
        calls.forEach((what, call) -> Check.due(what, want, () -> {
            call.accept(x);
            return "an answer";
        }));
        Check.same("everything after calls that throw " + want, before, everything(x));
    }

    private static Map<String, Consumer<DeviceFind>> outOfBounds() {
        Map<String, Consumer<DeviceFind>> calls = new LinkedHashMap<>();
        calls.put("polygon(4)", x -> x.polygon(4));
        calls.put("polygon(-1)", x -> x.polygon(-1));
        calls.put("corner(60)", x -> x.corner(60, 9, 9));
        calls.put("corner(-1)", x -> x.corner(-1, 9, 9));
        calls.put("text of wire 8", x -> x.text(8, 0, 0, 1));
        calls.put("text of wire -1", x -> x.text(-1, 0, 0, 1));
        calls.put("text at 64", x -> x.text(0, 64, 0, 1));
        calls.put("device what 5", x -> x.device(0, 5));
        calls.put("size which 3", x -> x.size(0, 3));
        calls.put("net at 64", x -> x.net(0, 0, 64));
        calls.put("twice(-1)", x -> x.twice(-1));
        calls.put("bad(-1)", x -> x.bad(-1));
        calls.put("count(9)", x -> x.count(9));
        return calls;
    }

    private static Map<String, Consumer<DeviceFind>> outOfFound() {
        Map<String, Consumer<DeviceFind>> calls = new LinkedHashMap<>();
        calls.put("device(4, 0)", x -> x.device(4, 0));
        calls.put("size(4, 0)", x -> x.size(4, 0));
        calls.put("pin(4, 0)", x -> x.pin(4, 0));
        calls.put("pin(0, 2)", x -> x.pin(0, 2));
        calls.put("net(3, 0, 0)", x -> x.net(3, 0, 0));
        calls.put("named(4)", x -> x.named(4));
        calls.put("joined(2)", x -> x.joined(2));
        return calls;
    }

    private static Map<String, Consumer<DeviceFind>> wrongArguments() {
        Map<String, Consumer<DeviceFind>> calls = new LinkedHashMap<>();
        calls.put("corner beyond x", x -> x.corner(0, 65, 11));
        calls.put("corner beyond y", x -> x.corner(0, 10, -1));
        calls.put("text with a name below 0", x -> x.text(0, 23, 20, -1));
        return calls;
    }

    private static DeviceFind withTape(DeviceFind x) {
        x.unit('x');
        return x;
    }

    private static void throwsAfterRun() {
        changesNothing(BOUNDS, withTape(found()), outOfBounds());
        changesNothing(BOUNDS, withTape(found()), outOfFound());
        DeviceFind x = withTape(found());
        changesNothing(ARGUMENT, x, wrongArguments());
        Check.due("the next polygon's number", 7, () -> x.polygon(0));
    }

    private static void throwsBeforeRun() {
        String due = everything(withTape(found()));
        Map<String, Map<String, Consumer<DeviceFind>>> all = new LinkedHashMap<>();
        all.put(BOUNDS, outOfBounds());
        all.put(STATE, outOfFound());
        all.put(ARGUMENT, wrongArguments());
        all.forEach((want, calls) -> {
            DeviceFind x = withTape(sample());
            changesNothing(want, x, calls);
            Check.due("run", 4, x::run);
            Check.same("everything that is found then", due, everything(x));
        });
    }

    private static void throwsWhenFull() {
        DeviceFind x = sample();
        for (int k = 7; k < 60; k++) {
            x.polygon(3);
        }
        for (int k = 0; k < 12; k++) {
            x.corner(0, k % 2 == 0 ? 11 : 10, 12);
        }
        for (int k = 3; k < 40; k++) {
            x.text(7, 0, 0, k);
        }
        Check.due("run", 4, x::run);
        Map<String, Consumer<DeviceFind>> calls = new LinkedHashMap<>();
        calls.put("the 61st polygon", d -> d.polygon(0));
        calls.put("the 17th corner", d -> d.corner(0, 12, 12));
        calls.put("the 41st text", d -> d.text(0, 0, 0, 0));
        calls.put("the 41st text with a name below 0", d -> d.text(0, 0, 0, -1));
        changesNothing(STATE, x, calls);
        noneNeedsRun(x);
    }

    private static void throwsOfRun() {
        DeviceFind none = new DeviceFind(4);
        Check.square(none, 0, 0, 0);
        none.text(0, 0, 0, 1);
        none.unit('x');
        Map<String, Consumer<DeviceFind>> calls = new LinkedHashMap<>();
        calls.put("run", DeviceFind::run);
        changesNothing(STATE, none, calls);
        Check.due("polygons", 1, () -> none.count(6));
        Check.due("texts", 1, () -> none.count(7));
        Check.due("characters", 1, () -> none.count(8));
        DeviceFind many = crossing(18, 17);
        many.text(0, 0, 0, 1);
        many.unit('x');
        changesNothing(UNSUPPORTED, many, calls);
        int[] counts = {3, 1, 0, 1, 0, 0, 35, 1, 1};
        for (int what = 0; what < 9; what++) {
            int w = what;
            Check.due("count " + what, counts[what], () -> many.count(w));
        }
    }

    /** A text with devices where columns of input 0 cross rows of input 1. */
    private static DeviceFind crossing(int columns, int rows) {
        DeviceFind x = Check.reading(2, 1, "input a=0;input b=1;make c=a and b;wire c;device d=c pins c;");
        for (int k = 0; k < columns; k++) {
            Check.rectangle(x, 0, 2 * k, 0, 1, 64);
        }
        for (int k = 0; k < rows; k++) {
            Check.rectangle(x, 1, 0, 2 * k, 64, 1);
        }
        return x;
    }

    private static void whats(int what, int... want) {
        DeviceFind x = found();
        for (int k = 0; k < want.length; k++) {
            int device = k;
            Check.due("device(" + k + ", " + what + ")", want[k], () -> x.device(device, what));
        }
    }

    private static void kindOfDevice() {
        whats(0, 0, 0, 1, 1);
    }

    private static void shapeOfDevice() {
        whats(1, 0, 1, 0, 1);
        DeviceFind most = crossing(15, 20);
        Check.due("run", 300, most::run);
        Check.due("the last shape", 299, () -> most.device(299, 1));
    }

    private static void whetherBad() {
        whats(2, 0, 1, 0, 1);
    }

    private static void firstSquare() {
        whats(3, 10, 20, 10, 20);
        whats(4, 10, 20, 10, 20);
        DeviceFind x = Check.reading(1, 1, "input a=0;wire a;device d=a pins a;");
        // the lowest row is at the right, and the leftmost squares lie higher
        Check.polygon(x, 0, 30, 5, 33, 5, 33, 9, 20, 9, 20, 7, 30, 7);
        // two squares in the lowest row, with a gap between them
        Check.polygon(x, 0, 40, 20, 41, 20, 41, 21, 43, 21, 43, 20, 44, 20, 44, 23, 40, 23);
        Check.square(x, 0, 63, 63);
        Check.square(x, 0, 0, 0);
        Check.due("run", 4, x::run);
        int[][] want = {{0, 0}, {30, 5}, {40, 20}, {63, 63}};
        for (int k = 0; k < 4; k++) {
            int device = k;
            Check.due("x of device " + k, want[k][0], () -> x.device(device, 3));
            Check.due("y of device " + k, want[k][1], () -> x.device(device, 4));
        }
    }

    private static void noSuchWhat() {
        DeviceFind x = found();
        Check.due("what 5", BOUNDS, () -> x.device(0, 5));
        for (int what : FAR) {
            Check.due("what " + what, BOUNDS, () -> x.device(0, what));
        }
        Check.due("what 4", 10, () -> x.device(0, 4));
        Check.due("what 0", 0, () -> x.device(0, 0));
    }

    private static void noSuchDevice() {
        DeviceFind x = found();
        Check.due("device 3", 1, () -> x.device(3, 0));
        Check.due("device 4", BOUNDS, () -> x.device(4, 0));
        for (int device : FAR) {
            Check.due("device " + device, BOUNDS, () -> x.device(device, 0));
        }
        DeviceFind most = crossing(15, 20);
        Check.due("run", 300, most::run);
        Check.due("device 299", 0, () -> most.device(299, 0));
        Check.due("device 300", BOUNDS, () -> most.device(300, 0));
        DeviceFind none = Check.reading(1, 0, "");
        none.run();
        Check.due("device 0 of none", BOUNDS, () -> none.device(0, 0));
    }

    private static void deviceThrowsFirst() {
        DeviceFind x = sample();
        Check.due("no what, and no run()", BOUNDS, () -> x.device(0, 5));
        Check.due("no what, and no run()", BOUNDS, () -> x.device(0, -1));
        Check.due("no run(), and no device", STATE, () -> x.device(4, 0));
        Check.due("no run(), and no device", STATE, () -> x.device(-1, 4));
        Check.due("no what, no run() and no device", BOUNDS, () -> x.device(-1, 5));
    }

    private static void whichSizes() {
        DeviceFind x = found();
        long[][] want = {{6, 10, 1}, {4, 8, 1}, {6, 10, 1}, {4, 8, 0}};
        for (int k = 0; k < 4; k++) {
            for (int j = 0; j < 3; j++) {
                int device = k;
                int which = j;
                Check.due("size(" + k + ", " + j + ")", want[k][j], () -> x.size(device, which));
            }
        }
    }

    private static void noSuchWhich() {
        DeviceFind x = found();
        Check.due("which 3", BOUNDS, () -> x.size(0, 3));
        for (int which : FAR) {
            Check.due("which " + which, BOUNDS, () -> x.size(0, which));
        }
    }

    private static void noSuchDeviceOfSize() {
        DeviceFind x = found();
        Check.due("device 3", 4, () -> x.size(3, 0));
        Check.due("device 4", BOUNDS, () -> x.size(4, 0));
        for (int device : FAR) {
            Check.due("device " + device, BOUNDS, () -> x.size(device, 0));
        }
        DeviceFind most = crossing(15, 20);
        Check.due("run", 300, most::run);
        Check.due("device 299", 1, () -> most.size(299, 0));
        Check.due("device 299", 4, () -> most.size(299, 1));
        Check.due("device 300", BOUNDS, () -> most.size(300, 0));
    }

    private static void sizeThrowsFirst() {
        DeviceFind x = sample();
        Check.due("no which, and no run()", BOUNDS, () -> x.size(0, 3));
        Check.due("no which, and no run()", BOUNDS, () -> x.size(0, -1));
        Check.due("no run(), and no device", STATE, () -> x.size(4, 0));
        Check.due("no run(), and no device", STATE, () -> x.size(-1, 2));
        Check.due("no which, no run() and no device", BOUNDS, () -> x.size(-1, 3));
    }

    private static void netOfPin() {
        DeviceFind x = found();
        Check.due("pin(0, 0)", 0, () -> x.pin(0, 0));
        Check.due("pin(0, 1)", 2, () -> x.pin(0, 1));
        Check.due("pin(1, 0)", 1, () -> x.pin(1, 0));
        Check.due("pin(2, 0)", 2, () -> x.pin(2, 0));
        // the net, not the node: a join makes the first one's net that of the second one
        Check.polygon(x, 3, 10, 9, 14, 9, 14, 13, 12, 13, 12, 12, 13, 12, 13, 10, 10, 10);
        Check.due("run", 4, x::run);
        Check.due("pin(0, 1) with a join", 0, () -> x.pin(0, 1));
        Check.due("pin(2, 0) with a join", 0, () -> x.pin(2, 0));
    }

    private static void openPin() {
        DeviceFind x = found();
        Check.due("pin(1, 1)", NONE, () -> x.pin(1, 1));
        Check.due("pin(3, 0)", NONE, () -> x.pin(3, 0));
    }

    private static void noSuchDeviceOfPin() {
        DeviceFind x = found();
        Check.due("device 3", NONE, () -> x.pin(3, 0));
        Check.due("device 4", BOUNDS, () -> x.pin(4, 0));
        for (int device : FAR) {
            Check.due("device " + device, BOUNDS, () -> x.pin(device, 0));
        }
        DeviceFind most = crossing(15, 20);
        Check.due("run", 300, most::run);
        Check.due("device 299", 299, () -> most.pin(299, 0));
        Check.due("device 300", BOUNDS, () -> most.pin(300, 0));
    }

    private static void noSuchPin() {
        DeviceFind x = found();
        Check.due("pin 2 of two", BOUNDS, () -> x.pin(0, 2));
        Check.due("pin 1 of one", BOUNDS, () -> x.pin(2, 1));
        Check.due("pin 4", BOUNDS, () -> x.pin(0, 4));
        for (int pin : FAR) {
            Check.due("pin " + pin, BOUNDS, () -> x.pin(0, pin));
        }
        DeviceFind four = Check.reading(1, 1, "input a=0;wire a;device d=a pins a a a a;");
        Check.square(four, 0, 0, 0);
        four.run();
        Check.due("pin 3 of four", NONE, () -> four.pin(0, 3));
        Check.due("pin 4 of four", BOUNDS, () -> four.pin(0, 4));
    }

    private static void pinThrowsFirst() {
        DeviceFind x = sample();
        Check.due("no run(), and no device", STATE, () -> x.pin(4, 0));
        Check.due("no run(), and no device", STATE, () -> x.pin(-1, 0));
        Check.due("no run(), and no pin", STATE, () -> x.pin(0, 4));
        Check.due("no run(), and no pin", STATE, () -> x.pin(0, -1));
    }

    private static void netOfSquare() {
        DeviceFind x = found();
        Check.due("nets", 4, () -> x.count(5));
        int[][] want = {{0, 0, 10, 9}, {1, 0, 22, 20}, {1, 0, 24, 20}, {2, 1, 12, 12}, {3, 1, 40, 20}};
        for (int[] w : want) {
            Check.due("net of wire " + w[1] + " at " + w[2] + ", " + w[3], w[0], () -> x.net(w[1], w[2], w[3]));
        }
    }

    private static void notInWire() {
        DeviceFind x = found();
        int[][] none = {{0, 12, 12}, {1, 10, 9}, {0, 9, 9}, {0, 11, 9}, {0, 10, 8}, {0, 10, 10}, {0, 21, 20},
            {0, 25, 20}, {0, 0, 0}, {0, 63, 63}, {2, 10, 9}, {2, 12, 12}};
        for (int[] n : none) {
            Check.due("net of wire " + n[0] + " at " + n[1] + ", " + n[2], NONE, () -> x.net(n[0], n[1], n[2]));
        }
    }

    private static void noSuchSquare() {
        DeviceFind x = found();
        for (long far : new long[] {-1, 64, 1L << 32, (1L << 32) + 10, Long.MIN_VALUE, Long.MAX_VALUE}) {
            Check.due("x is " + far, BOUNDS, () -> x.net(0, far, 9));
            Check.due("y is " + far, BOUNDS, () -> x.net(0, 10, far));
        }
    }

    private static void noSuchWire() {
        DeviceFind x = found();
        Check.due("wire 2", NONE, () -> x.net(2, 0, 0));
        Check.due("wire 3", BOUNDS, () -> x.net(3, 0, 0));
        Check.due("wire 7", BOUNDS, () -> x.net(7, 0, 0));
        Check.due("wire 8", BOUNDS, () -> x.net(8, 0, 0));
        for (int wire : FAR) {
            Check.due("wire " + wire, BOUNDS, () -> x.net(wire, 0, 0));
        }
    }

    private static void netThrowsFirst() {
        DeviceFind x = sample();
        Check.due("no square, and no run()", BOUNDS, () -> x.net(0, 64, 0));
        Check.due("no square, and no run()", BOUNDS, () -> x.net(0, 0, -1));
        Check.due("no run(), and no wire", STATE, () -> x.net(3, 0, 0));
        Check.due("no run(), and no wire", STATE, () -> x.net(-1, 63, 63));
        Check.due("no square, no run() and no wire", BOUNDS, () -> x.net(8, 64, 64));
    }

    private static void withoutName() {
        DeviceFind x = found();
        int[] want = {5, 8, NONE, NONE};
        for (int k = 0; k < 4; k++) {
            int net = k;
            Check.due("named(" + k + ")", want[k], () -> x.named(net));
        }
        x.text(1, 12, 12, 0);
        x.run();
        Check.due("the name 0 is one", 0, () -> x.named(2));
    }

    private static void noSuchNet() {
        DeviceFind x = found();
        Check.due("net 3", NONE, () -> x.named(3));
        Check.due("net 4", BOUNDS, () -> x.named(4));
        for (int net : FAR) {
            Check.due("net " + net, BOUNDS, () -> x.named(net));
        }
        DeviceFind none = Check.reading(1, 0, "");
        none.run();
        Check.due("net 0 of none", BOUNDS, () -> none.named(0));
    }

    private static void namedThrowsFirst() {
        DeviceFind x = sample();
        Check.due("no run(), and no net", STATE, () -> x.named(4));
        Check.due("no run(), and no net", STATE, () -> x.named(-1));
    }

    /** An object with nets 0 .. 9 of which those in the list are twice named, the last one first. */
    private static DeviceFind twiceNamedNets(int... nets) {
        DeviceFind x = Check.reading(1, 0, "input a=0;wire a;");
        for (int k = 9; k >= 0; k--) {
            Check.square(x, 0, 2 * k, 0);
            x.text(0, 2 * k, 0, 50 - k);
        }
        for (int k = nets.length - 1; k >= 0; k--) {
            x.text(0, 2 * nets[k], 0, 7);
        }
        x.run();
        return x;
    }

    private static void twiceNamed() {
        DeviceFind x = twiceNamedNets(1, 4, 9);
        int[] want = {1, 4, 9};
        for (int k = 0; k < 3; k++) {
            int at = k;
            Check.due("twice(" + k + ")", want[k], () -> x.twice(at));
        }
        Check.due("twice(0) of the first net", 0, () -> twiceNamedNets(0).twice(0));
        DeviceFind most = Check.reading(1, 0, "input a=0;wire a;");
        for (int k = 0; k < 20; k++) {
            Check.square(most, 0, 2 * k, 0);
            most.text(0, 2 * k, 0, 1);
            most.text(0, 2 * k, 0, 0);
        }
        most.run();
        Check.due("as many as there can be", 19, () -> most.twice(19));
        Check.due("no more", NONE, () -> most.twice(20));
    }

    private static void notSoManyTwice() {
        DeviceFind x = twiceNamedNets(1, 4, 9);
        for (int k = 3; k < 50; k++) {
            int at = k;
            Check.due("twice(" + k + ") of three", NONE, () -> x.twice(at));
        }
        Check.due("twice(MAX)", NONE, () -> x.twice(Integer.MAX_VALUE));
        Check.due("twice(0) of none", NONE, () -> twiceNamedNets().twice(0));
    }

    private static void twiceBelowZero() {
        DeviceFind x = found();
        Check.due("twice(-1)", BOUNDS, () -> x.twice(-1));
        Check.due("twice(MIN)", BOUNDS, () -> x.twice(Integer.MIN_VALUE));
        Check.due("twice(0)", 1, () -> x.twice(0));
    }

    private static void twiceThrowsFirst() {
        DeviceFind x = sample();
        Check.due("k is below 0, and no run()", BOUNDS, () -> x.twice(-1));
        Check.due("no run(), and not so many", STATE, () -> x.twice(9));
    }

    private static void badDevices() {
        DeviceFind x = found();
        Check.due("bad(0)", 1, () -> x.bad(0));
        Check.due("bad(1)", 3, () -> x.bad(1));
        DeviceFind most = Check.reading(3, 1, "input a=0;input b=1;make c=a and b;input w=2;wire w;device d=c pins w;");
        for (int k = 0; k < 15; k++) {
            Check.rectangle(most, 0, 2 * k, 0, 1, 64);
        }
        for (int k = 0; k < 20; k++) {
            Check.rectangle(most, 1, 0, 2 * k, 64, 1);
        }
        Check.due("run", 300, most::run);
        Check.due("the last of 300", 299, () -> most.bad(299));
        Check.due("no more", NONE, () -> most.bad(300));
    }

    private static void notSoManyBad() {
        DeviceFind x = found();
        Check.due("bad(2) of two", NONE, () -> x.bad(2));
        Check.due("bad(3)", NONE, () -> x.bad(3));
        Check.due("bad(300)", NONE, () -> x.bad(300));
        Check.due("bad(MAX)", NONE, () -> x.bad(Integer.MAX_VALUE));
        DeviceFind none = Check.reading(1, 0, "");
        none.run();
        Check.due("bad(0) of none", NONE, () -> none.bad(0));
    }

    private static void badBelowZero() {
        DeviceFind x = found();
        Check.due("bad(-1)", BOUNDS, () -> x.bad(-1));
        Check.due("bad(MIN)", BOUNDS, () -> x.bad(Integer.MIN_VALUE));
        Check.due("bad(0)", 1, () -> x.bad(0));
    }

    private static void badThrowsFirst() {
        DeviceFind x = sample();
        Check.due("k is below 0, and no run()", BOUNDS, () -> x.bad(-1));
        Check.due("no run(), and not so many", STATE, () -> x.bad(9));
    }

    /** Places in row 1 over a wire in row 0 and below a wire in row 2, which are cut where there is a gap. */
    private static DeviceFind ladder(String kinds, int[] places, int[] gaps) {
        DeviceFind x = new DeviceFind(4);
        Check.same("read", true, Check.read(x, "input p=0;input a=1;input b=2;input j=3;wire a;wire b;" + kinds) > 0);
        int from = 0;
        for (int gap : gaps) {
            Check.rectangle(x, 1, from, 0, gap - from, 1);
            from = gap + 1;
        }
        Check.rectangle(x, 2, 0, 2, 60, 1);
        for (int place : places) {
            Check.square(x, 0, place, 1);
        }
        return x;
    }

    private static void joinedNotBad() {
        DeviceFind x = ladder("device d=p pins a b;", new int[] {1, 3, 11, 30, 40}, new int[] {10, 20});
        Check.due("run", 5, x::run);
        Check.due("the first bad one", 3, () -> x.bad(0));
        Check.due("two are bad", 4, () -> x.bad(1));
        Check.due("the good ones alone", 2, () -> x.joined(0));
        DeviceFind all = ladder("device d=p pins a b;", new int[] {30, 40}, new int[] {10});
        Check.due("run", 2, all::run);
        Check.due("all are bad", 0, () -> all.joined(0));
        // a bad one does not stand for a good one behind it that has the same nets
        DeviceFind mixed = Check.reading(2, 1, "input p=0;input a=1;wire a;device d=p pins a;");
        Check.rectangle(mixed, 1, 0, 0, 1, 10);
        Check.square(mixed, 1, 2, 0);
        Check.square(mixed, 0, 1, 0);
        Check.square(mixed, 0, 1, 5);
        Check.due("run", 2, mixed::run);
        Check.due("the first one is bad", 0, () -> mixed.bad(0));
        Check.due("the second one is not", NONE, () -> mixed.bad(1));
        Check.due("the net of the first one", 0, () -> mixed.pin(0, 0));
        Check.due("the net of the second one", 0, () -> mixed.pin(1, 0));
        Check.due("the good one", 1, () -> mixed.joined(0));
    }

    private static void joinedSameNets() {
        DeviceFind x = ladder("device d=p pins a b;", new int[] {1, 3, 5, 11, 13, 21}, new int[] {10, 20, 30});
        Check.due("run", 6, x::run);
        Check.due("three places apart", 3, () -> x.joined(0));
        // by way of a join round the part between, so that others come between those with the same nets
        Check.due("read", 1, () -> Check.read(x, "input p=0;input a=1;input b=2;input j=3;wire a;wire b;join a a by j;"
                + "device d=p pins a b;"));
        Check.polygon(x, 3, 9, 0, 10, 0, 10, 4, 21, 4, 21, 0, 22, 0, 22, 5, 9, 5);
        Check.due("run", 6, x::run);
        Check.due("two are left", 2, () -> x.joined(0));
        Check.rectangle(x, 3, 9, 0, 3, 1);
        Check.due("run", 6, x::run);
        Check.due("one is left", 1, () -> x.joined(0));
    }

    private static void joinedPinByPin() {
        // two pins of one wire, once with nets 0 1 and once with nets 1 0: they differ
        DeviceFind x = Check.reading(3, 1, "input p=0;input a=1;input j=2;wire a;join a a by j;device d=p pins a a;");
        int[][] rows = {{0, 2}, {10, 12}};
        for (int[] row : rows) {
            Check.square(x, 0, 1, row[0]);
            Check.square(x, 1, 0, row[0]);
            Check.square(x, 1, 2, row[0]);
        }
        Check.polygon(x, 2, 0, 0, 1, 0, 1, 5, 3, 5, 3, 11, 2, 11, 2, 6, 0, 6); // left below with right above
        Check.polygon(x, 2, 2, 0, 9, 0, 9, 13, 0, 13, 0, 10, 1, 10, 1, 12, 8, 12, 8, 1, 2, 1); // right with left
        Check.due("run", 2, x::run);
        int[] want = {0, 1, 1, 0};
        for (int k = 0; k < 4; k++) {
            int device = k / 2;
            int pin = k % 2;
            Check.due("pin(" + device + ", " + pin + ")", want[k], () -> x.pin(device, pin));
        }
        Check.due("they are two", 2, () -> x.joined(0));
        // the last pin alone differs
        DeviceFind last = ladder("device d=p pins b a;", new int[] {1, 11}, new int[] {10, 20});
        Check.due("run", 2, last::run);
        Check.due("the same first pin", last.pin(0, 0), () -> last.pin(1, 0));
        Check.due("they are two", 2, () -> last.joined(0));
    }

    private static void joinedOfKind() {
        DeviceFind x = ladder("device d=p pins a b;device e=p pins b;device f=j pins a;device g=p pins a b;",
                new int[] {1, 3, 11}, new int[] {10, 20});
        Check.due("run", 9, x::run);
        int[] want = {2, 1, 0, 2};
        for (int k = 0; k < 4; k++) {
            int kind = k;
            Check.due("joined(" + k + ")", want[k], () -> x.joined(kind));
        }
    }

    private static void noSuchKind() {
        DeviceFind x = found();
        Check.due("kind 1", 1, () -> x.joined(1));
        Check.due("kind 2", BOUNDS, () -> x.joined(2));
        for (int kind : FAR) {
            Check.due("kind " + kind, BOUNDS, () -> x.joined(kind));
        }
        DeviceFind none = Check.reading(1, 0, "");
        none.run();
        Check.due("kind 0 of none", BOUNDS, () -> none.joined(0));
        DeviceFind eight = Check.reading(1, 8, "input a=0;wire a;device a=a pins a;device b=a pins a;"
                + "device c=a pins a;device d=a pins a;device e=a pins a;device f=a pins a;"
                + "device g=a pins a;device h=a pins a;");
        Check.square(eight, 0, 0, 0);
        eight.run();
        Check.due("kind 7", 1, () -> eight.joined(7));
        Check.due("kind 8", BOUNDS, () -> eight.joined(8));
    }

    private static void joinedThrowsFirst() {
        DeviceFind x = sample();
        Check.due("no run(), and no kind", STATE, () -> x.joined(2));
        Check.due("no run(), and no kind", STATE, () -> x.joined(-1));
    }

    private static void counts(DeviceFind x, int from, int... want) {
        for (int k = 0; k < want.length; k++) {
            int what = from + k;
            Check.due("count(" + what + ")", want[k], () -> x.count(what));
        }
    }

    private static void toldByText() {
        DeviceFind x = sample();
        counts(x, 0, 5, 3, 1, 2);
        Check.tape(x, "input a=0;");
        counts(x, 0, 5, 3, 1, 2);
        Check.due("read", 0, x::read);
        counts(x, 0, 1, 0, 0, 0);
        Check.due("read", 0, x::read);
        counts(x, 0, 0, 0, 0, 0);
        counts(new DeviceFind(9), 0, 0, 0, 0, 0);
    }

    private static void devicesAndNets() {
        counts(found(), 4, 4, 4);
        DeviceFind most = crossing(15, 20);
        most.run();
        counts(most, 4, 300, 300);
        DeviceFind none = Check.reading(1, 0, "");
        none.run();
        counts(none, 4, 0, 0);
    }

    private static void zeroWithoutRun() {
        counts(new DeviceFind(1), 4, 0, 0);
        DeviceFind x = sample();
        counts(x, 4, 0, 0);
        x.run();
        counts(x, 4, 4, 4);
        x.polygon(0);
        counts(x, 4, 0, 0);
        x.run();
        x.corner(7, 0, 0);
        counts(x, 4, 0, 0);
        x.run();
        x.text(0, 0, 0, 0);
        counts(x, 4, 0, 0);
        x.run();
        counts(x, 4, 4, 4);
        Check.due("read", 0, x::read);
        counts(x, 4, 0, 0);
        DeviceFind many = crossing(18, 17);
        Check.due("run", UNSUPPORTED, many::run);
        counts(many, 4, 0, 0);
    }

    private static void countOfPolygons() {
        DeviceFind x = sample();
        counts(x, 6, 7);
        x.polygon(3);
        counts(x, 6, 8);
        x.corner(7, 0, 0);
        Check.due("read", 0, x::read);
        counts(x, 6, 8);
        for (int k = 8; k < 60; k++) {
            x.polygon(0);
        }
        Check.due("the 61st", STATE, () -> x.polygon(0));
        counts(x, 6, 60);
    }

    private static void countOfTexts() {
        DeviceFind x = sample();
        counts(x, 7, 3);
        Check.due("read", 0, x::read);
        for (int k = 3; k < 40; k++) {
            counts(x, 7, k);
            x.text(0, 0, 0, 0);
        }
        Check.due("the 41st", STATE, () -> x.text(0, 0, 0, 0));
        counts(x, 7, 40);
    }

    private static void countOfCharacters() {
        DeviceFind x = new DeviceFind(1);
        x.unit('a');
        counts(x, 8, 1);
        x.unit(1);
        counts(x, 8, 1);
        x.units('a' << 24 | '\n');
        counts(x, 8, 3);
        x.units('a' << 24 | 1);
        counts(x, 8, 3);
        Check.tape(x, " ".repeat(797));
        counts(x, 8, 800);
        x.unit('a');
        counts(x, 8, 800);
        Check.due("read", -1, x::read);
        counts(x, 8, 0);
    }

    private static void noSuchCount() {
        DeviceFind x = new DeviceFind(1);
        Check.due("count(9)", BOUNDS, () -> x.count(9));
        for (int what : FAR) {
            Check.due("count(" + what + ")", BOUNDS, () -> x.count(what));
        }
        Check.due("count(8)", 0, () -> x.count(8));
        Check.due("count(0)", 0, () -> x.count(0));
    }
}

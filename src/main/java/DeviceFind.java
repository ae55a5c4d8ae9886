import java.util.Arrays;

/** Devices found in a layout by a text that tells layers, wires, joins and kinds of devices. */
public final class DeviceFind {
    public static final int NONE = -1;

    private static final int SIDE = 64;
    private static final int SQUARES = SIDE * SIDE;
    /** No two shapes share an edge, so at most every other square begins one. */
    private static final int MOST_SHAPES = SQUARES / 2;
    private static final int MOST_INPUTS = 65536;
    private static final int MOST_POLYGONS = 60;
    private static final int MOST_CORNERS = 16;
    private static final int MOST_NOTES = 40;
    private static final int MOST_CHARACTERS = 800;
    private static final int MOST_LAYERS = 24;
    private static final int MOST_WIRES = 8;
    private static final int MOST_JOINS = 16;
    private static final int MOST_KINDS = 8;
    private static final int MOST_PINS = 4;
    private static final int MOST_DEVICES = 300;
    private static final int SIZES = 3;

    private static final int INPUT = 0;
    private static final int AND = 1;
    private static final int OR = 2;
    private static final int LESS = 3;

    private final int inputs;
    private final Tape tape;
    private final Reader reader;
    private final Drawing drawing;
    private final Notes notes;
    private final Layers layers;
    private final Nets nets;
    private final Devices devices;
    private Plan plan;
    private boolean told;
    private boolean found;

    public DeviceFind(int layers) {
        inputs = Math.max(1, Math.min(MOST_INPUTS, layers));
        tape = new Tape();
        reader = new Reader(tape, inputs);
        drawing = new Drawing();
        notes = new Notes();
        this.layers = new Layers();
        Peeler peeler = new Peeler();
        nets = new Nets(this.layers, peeler);
        devices = new Devices(this.layers, peeler, new Place(this.layers, nets, peeler));
        plan = new Plan();
        told = false;
        found = false;
    }

    public boolean unit(int u) {
        return tape.add(u);
    }

    public boolean units(int four) {
        return tape.addFour(four);
    }

    public int read() {
        int wrong = reader.wrongWord();
        tape.length = 0;
        if (wrong != NONE) {
            return -1 - wrong;
        }
        plan = reader.exchange(plan);
        told = true;
        found = false;
        return plan.kinds;
    }

    public int polygon(int input) throws IndexOutOfBoundsException, IllegalStateException {
        mustBeBelow(input, inputs);
        mustBeTrue(drawing.polygons < MOST_POLYGONS);
        found = false;
        return drawing.add(input);
    }

    public boolean corner(int polygon, long x, long y)
            throws IndexOutOfBoundsException, IllegalStateException, IllegalArgumentException {
        mustBeBelow(polygon, drawing.polygons);
        mustBeTrue(drawing.corners[polygon] < MOST_CORNERS);
        if (x < 0 || x > SIDE || y < 0 || y > SIDE) {
            throw new IllegalArgumentException();
        }
        if (!drawing.addCorner(polygon, (int) x, (int) y)) {
            return false;
        }
        found = false;
        return true;
    }

    public int text(int wire, long x, long y, int name)
            throws IndexOutOfBoundsException, IllegalStateException, IllegalArgumentException {
        mustBeBelow(wire, MOST_WIRES);
        mustBeSquare(x, y);
        mustBeTrue(notes.told < MOST_NOTES);
        if (name < 0) {
            throw new IllegalArgumentException();
        }
        found = false;
        notes.add(wire, squareAt((int) x, (int) y), name);
        return notes.told;
    }

    public int run() throws IllegalStateException, UnsupportedOperationException {
        mustBeTrue(told);
        if (!found) {
            found = findAll();
        }
        if (!found) {
            throw new UnsupportedOperationException();
        }
        return devices.total;
    }

    public int device(int k, int what) throws IndexOutOfBoundsException, IllegalStateException {
        mustBeBelow(what, 5);
        mustBeTrue(found);
        mustBeBelow(k, devices.total);
        switch (what) {
            case 0:
                return devices.kinds[k];
            case 1:
                return devices.shapes[k];
            case 2:
                return devices.faults[k];
            case 3:
                return columnOf(devices.firsts[k]);
            default:
                return rowOf(devices.firsts[k]);
        }
    }

    public long size(int device, int which) throws IndexOutOfBoundsException, IllegalStateException {
        mustBeBelow(which, SIZES);
        mustBeTrue(found);
        mustBeBelow(device, devices.total);
        return devices.sizes[device * SIZES + which];
    }

    public int pin(int device, int k) throws IllegalStateException, IndexOutOfBoundsException {
        mustBeTrue(found);
        mustBeBelow(device, devices.total);
        mustBeBelow(k, plan.pinCounts[devices.kinds[device]]);
        return devices.pinNets[device * MOST_PINS + k];
    }

    public int net(int wire, long x, long y) throws IndexOutOfBoundsException, IllegalStateException {
        mustBeSquare(x, y);
        mustBeTrue(found);
        mustBeBelow(wire, plan.wires);
        return nets.netAt(wire, squareAt((int) x, (int) y));
    }

    public int named(int net) throws IllegalStateException, IndexOutOfBoundsException {
        mustBeTrue(found);
        mustBeBelow(net, nets.total);
        return notes.leastName(net);
    }

    public int twice(int k) throws IndexOutOfBoundsException, IllegalStateException {
        mustNotBeNegative(k);
        mustBeTrue(found);
        return notes.twiceNamed(k);
    }

    public int bad(int k) throws IndexOutOfBoundsException, IllegalStateException {
        mustNotBeNegative(k);
        mustBeTrue(found);
        return devices.faulty(k);
    }

    public int joined(int kind) throws IllegalStateException, IndexOutOfBoundsException {
        mustBeTrue(found);
        mustBeBelow(kind, plan.kinds);
        return devices.different[kind];
    }

    public int count(int what) throws IndexOutOfBoundsException {
        mustBeBelow(what, 9);
        switch (what) {
            case 0:
                return plan.layers;
            case 1:
                return plan.wires;
            case 2:
                return plan.joins;
            case 3:
                return plan.kinds;
            case 4:
                return found ? devices.total : 0;
            case 5:
                return found ? nets.total : 0;
            case 6:
                return drawing.polygons;
            case 7:
                return notes.told;
            default:
                return tape.length;
        }
    }

    private boolean findAll() {
        layers.draw(plan, drawing);
        nets.find(plan);
        notes.findNets(plan, nets);
        return devices.find(plan);
    }

    private static void mustBeBelow(int index, int bound) throws IndexOutOfBoundsException {
        if (index < 0 || index >= bound) {
            throw new IndexOutOfBoundsException();
        }
    }

    private static void mustNotBeNegative(int k) throws IndexOutOfBoundsException {
        if (k < 0) {
            throw new IndexOutOfBoundsException();
        }
    }

    private static void mustBeSquare(long x, long y) throws IndexOutOfBoundsException {
        if (x < 0 || x >= SIDE || y < 0 || y >= SIDE) {
            throw new IndexOutOfBoundsException();
        }
    }

    private static void mustBeTrue(boolean state) throws IllegalStateException {
        if (!state) {
            throw new IllegalStateException();
        }
    }

    private static int squareAt(int x, int y) {
        return y * SIDE + x;
    }

    private static int columnOf(int square) {
        return square % SIDE;
    }

    private static int rowOf(int square) {
        return square / SIDE;
    }

    /** The column of the leftmost square of a row of squares that is not empty. */
    private static int leftmost(long row) {
        return Long.bitCount((row & -row) - 1);
    }

    /** A row of squares, which is empty beyond the plane. */
    private static long rowAt(long[] rows, int y) {
        return y < 0 || y >= SIDE ? 0 : rows[y];
    }

    /** The characters that wait to be read. */
    private static final class Tape {
        final char[] characters = new char[MOST_CHARACTERS];
        int length = 0;

        boolean add(int u) {
            boolean isCharacter = u == '\n' || u >= ' ' && u <= '~';
            if (!isCharacter || length >= MOST_CHARACTERS) {
                return false;
            }
            characters[length] = (char) u;
            length++;
            return true;
        }

        boolean addFour(int four) {
            int before = length;
            for (int shift = 24; shift >= 0; shift -= 8) {
                int u = four >>> shift & 255;
                if (u != 0 && !add(u)) {
                    length = before;
                    return false;
                }
            }
            return true;
        }
    }

    /** What a text tells. */
    private static final class Plan {
        final long[] layerNames = new long[MOST_LAYERS];
        final int[] layerWays = new int[MOST_LAYERS];
        /** The input's number, or the first layer that the layer is made of. */
        final int[] layerSources = new int[MOST_LAYERS];
        final int[] layerSeconds = new int[MOST_LAYERS];
        final int[] wireLayers = new int[MOST_WIRES];
        final int[] joinFirsts = new int[MOST_JOINS];
        final int[] joinSeconds = new int[MOST_JOINS];
        final int[] joinLayers = new int[MOST_JOINS];
        final long[] kindNames = new long[MOST_KINDS];
        final int[] kindLayers = new int[MOST_KINDS];
        final int[] pinCounts = new int[MOST_KINDS];
        final int[] pinWires = new int[MOST_KINDS * MOST_PINS];
        int layers = 0;
        int wires = 0;
        int joins = 0;
        int kinds = 0;

        void clear() {
            layers = 0;
            wires = 0;
            joins = 0;
            kinds = 0;
        }

        void addLayer(long name, int way, int source, int second) {
            layerNames[layers] = name;
            layerWays[layers] = way;
            layerSources[layers] = source;
            layerSeconds[layers] = second;
            layers++;
        }

        void addWire(int layer) {
            wireLayers[wires] = layer;
            wires++;
        }

        void addJoin(int first, int second, int layer) {
            joinFirsts[joins] = first;
            joinSeconds[joins] = second;
            joinLayers[joins] = layer;
            joins++;
        }

        void addKind(long name, int layer, int pins) {
            kindNames[kinds] = name;
            kindLayers[kinds] = layer;
            pinCounts[kinds] = pins;
            kinds++;
        }

        int layerNamed(long name) {
            for (int layer = 0; layer < layers; layer++) {
                if (layerNames[layer] == name) {
                    return layer;
                }
            }
            return NONE;
        }

        int wireOf(int layer) {
            for (int wire = 0; wire < wires; wire++) {
                if (wireLayers[wire] == layer) {
                    return wire;
                }
            }
            return NONE;
        }

        boolean hasKind(long name) {
            for (int kind = 0; kind < kinds; kind++) {
                if (kindNames[kind] == name) {
                    return true;
                }
            }
            return false;
        }
    }

    /** The words of a tape; behind the last one stands an END. */
    private static final class Words {
        static final int END = 0;
        static final int NAME = 1;
        static final int NUMBER = 2;
        static final int SIGN = 3;
        private static final int BLANK = 4;
        private static final int TOO_LONG = 5;
        private static final int LONGEST_NAME = 8;
        private static final int LONGEST_NUMBER = 6;

        final int[] sorts = new int[MOST_CHARACTERS + 1];
        /** A name's code, a number, or a sign. */
        final long[] values = new long[MOST_CHARACTERS + 1];
        private int total = 0;
        private int length = 0;

        void split(Tape tape) {
            total = 0;
            int before = BLANK;
            for (int at = 0; at < tape.length; at++) {
                char c = tape.characters[at];
                int sort = sortOf(c);
                if (sort == SIGN || sort != before) {
                    length = 0;
                }
                if (sort != BLANK) {
                    addCharacter(sort, c);
                }
                before = sort;
            }
            sorts[total] = END;
        }

        private void addCharacter(int sort, char c) {
            if (length == 0) {
                sorts[total] = sort;
                values[total] = 0;
                total++;
            }
            int word = total - 1;
            length++;
            if (sort == NAME) {
                values[word] = withLetter(values[word], c);
            } else {
                values[word] = sort == NUMBER ? values[word] * 10 + (c - '0') : c;
            }
            if (sort == NAME && length > LONGEST_NAME || sort == NUMBER && length > LONGEST_NUMBER) {
                sorts[word] = TOO_LONG;
            }
        }

        private static int sortOf(char c) {
            if (c >= 'a' && c <= 'z') {
                return NAME;
            }
            if (c >= '0' && c <= '9') {
                return NUMBER;
            }
            return c == ' ' || c == '\n' ? BLANK : SIGN;
        }

        static long codeOf(String name) {
            long code = 0;
            for (int k = 0; k < name.length(); k++) {
                code = withLetter(code, name.charAt(k));
            }
            return code;
        }

        /** Five bits a letter, none of them 0: the codes of different names differ, and none is NONE. */
        private static long withLetter(long code, char letter) {
            return (code << 5) + (letter - 'a' + 1);
        }
    }

    /**
     * Makes a plan of the words on a tape. A method that takes a word goes on to the next one if the
     * word can stand there; else the word stays at hand, and so its number is the wrong word's.
     */
    private static final class Reader {
        private final Tape tape;
        private final int inputs;
        private final Words words;
        private Plan plan;
        private int at;

        Reader(Tape tape, int inputs) {
            this.tape = tape;
            this.inputs = inputs;
            words = new Words();
            plan = new Plan();
            at = 0;
        }

        /** Hands out the plan that was read, for an old one to read the next text into. */
        Plan exchange(Plan old) {
            Plan made = plan;
            plan = old;
            return made;
        }

        /** The number of the wrong word, or NONE if the text is right. */
        int wrongWord() {
            words.split(tape);
            plan.clear();
            at = 0;
            for (int sentences = 0; sentences < MOST_CHARACTERS && !isAtEnd(); sentences++) {
                if (!takeSentence()) {
                    return at;
                }
            }
            return NONE;
        }

        private boolean isAtEnd() {
            return words.sorts[at] == Words.END;
        }

        private boolean takeSentence() {
            if (isWord("input")) {
                return plan.layers < MOST_LAYERS && takeInputSentence();
            }
            if (isWord("make")) {
                return plan.layers < MOST_LAYERS && takeMakeSentence();
            }
            if (isWord("wire")) {
                return plan.wires < MOST_WIRES && takeWireSentence();
            }
            if (isWord("join")) {
                return plan.joins < MOST_JOINS && takeJoinSentence();
            }
            return isWord("device") && plan.kinds < MOST_KINDS && takeDeviceSentence();
        }

        private boolean takeInputSentence() {
            at++;
            long name = takeNewLayer();
            if (name == NONE || !takeSign('=')) {
                return false;
            }
            int input = takeInput();
            if (input == NONE || !takeSign(';')) {
                return false;
            }
            plan.addLayer(name, INPUT, input, NONE);
            return true;
        }

        private boolean takeMakeSentence() {
            at++;
            long name = takeNewLayer();
            if (name == NONE || !takeSign('=')) {
                return false;
            }
            int first = takeLayer();
            if (first == NONE) {
                return false;
            }
            int way = takeWay();
            if (way == NONE) {
                return false;
            }
            int second = takeLayer();
            if (second == NONE || !takeSign(';')) {
                return false;
            }
            plan.addLayer(name, way, first, second);
            return true;
        }

        private boolean takeWireSentence() {
            at++;
            int layer = layerAtHand();
            if (layer == NONE || plan.wireOf(layer) != NONE) {
                return false;
            }
            at++;
            if (!takeSign(';')) {
                return false;
            }
            plan.addWire(layer);
            return true;
        }

        private boolean takeJoinSentence() {
            at++;
            int first = takeWire();
            if (first == NONE) {
                return false;
            }
            int second = takeWire();
            if (second == NONE || !takeWord("by")) {
                return false;
            }
            int layer = takeLayer();
            if (layer == NONE || !takeSign(';')) {
                return false;
            }
            plan.addJoin(first, second, layer);
            return true;
        }

        private boolean takeDeviceSentence() {
            at++;
            long name = takeNewKind();
            if (name == NONE || !takeSign('=')) {
                return false;
            }
            int layer = takeLayer();
            if (layer == NONE || !takeWord("pins")) {
                return false;
            }
            int pins = takePins();
            if (pins == 0 || !takeSign(';')) {
                return false;
            }
            plan.addKind(name, layer, pins);
            return true;
        }

        /** How many pins are told for the kind that comes next. */
        private int takePins() {
            for (int pins = 0; pins < MOST_PINS; pins++) {
                int wire = takeWire();
                if (wire == NONE) {
                    return pins;
                }
                plan.pinWires[plan.kinds * MOST_PINS + pins] = wire;
            }
            return MOST_PINS;
        }

        private long takeNewLayer() {
            if (words.sorts[at] != Words.NAME || plan.layerNamed(words.values[at]) != NONE) {
                return NONE;
            }
            at++;
            return words.values[at - 1];
        }

        private long takeNewKind() {
            if (words.sorts[at] != Words.NAME || plan.hasKind(words.values[at])) {
                return NONE;
            }
            at++;
            return words.values[at - 1];
        }

        private int takeLayer() {
            int layer = layerAtHand();
            if (layer != NONE) {
                at++;
            }
            return layer;
        }

        private int takeWire() {
            int layer = layerAtHand();
            int wire = layer == NONE ? NONE : plan.wireOf(layer);
            if (wire != NONE) {
                at++;
            }
            return wire;
        }

        private int takeInput() {
            if (words.sorts[at] != Words.NUMBER || words.values[at] >= inputs) {
                return NONE;
            }
            at++;
            return (int) words.values[at - 1];
        }

        private int takeWay() {
            int way = isWord("and") ? AND : isWord("or") ? OR : isWord("less") ? LESS : NONE;
            if (way != NONE) {
                at++;
            }
            return way;
        }

        private boolean takeWord(String word) {
            if (!isWord(word)) {
                return false;
            }
            at++;
            return true;
        }

        private boolean takeSign(char sign) {
            if (words.sorts[at] != Words.SIGN || words.values[at] != sign) {
                return false;
            }
            at++;
            return true;
        }

        private boolean isWord(String word) {
            return words.sorts[at] == Words.NAME && words.values[at] == Words.codeOf(word);
        }

        private int layerAtHand() {
            return words.sorts[at] == Words.NAME ? plan.layerNamed(words.values[at]) : NONE;
        }
    }

    /** The polygons of the inputs. */
    private static final class Drawing {
        final int[] inputs = new int[MOST_POLYGONS];
        final int[] corners = new int[MOST_POLYGONS];
        final int[] xs = new int[MOST_POLYGONS * MOST_CORNERS];
        final int[] ys = new int[MOST_POLYGONS * MOST_CORNERS];
        /** The squares of the polygon that was filled last. */
        final long[] rows = new long[SIDE];
        int polygons = 0;

        int add(int input) {
            inputs[polygons] = input;
            polygons++;
            return polygons - 1;
        }

        boolean addCorner(int polygon, int x, int y) {
            int next = polygon * MOST_CORNERS + corners[polygon];
            xs[next] = x;
            ys[next] = y;
            if (corners[polygon] > 0 && !differInOne(next - 1, next)) {
                return false;
            }
            corners[polygon]++;
            return true;
        }

        void fill(int polygon) {
            Arrays.fill(rows, 0L);
            if (isOpen(polygon)) {
                return;
            }
            int first = polygon * MOST_CORNERS;
            int before = first + corners[polygon] - 1;
            for (int k = 0; k < corners[polygon]; k++) {
                meetSide(before, first + k);
                before = first + k;
            }
        }

        private boolean isOpen(int polygon) {
            int first = polygon * MOST_CORNERS;
            return corners[polygon] < 4 || !differInOne(first, first + corners[polygon] - 1);
        }

        private boolean differInOne(int one, int other) {
            return (xs[one] != xs[other]) != (ys[one] != ys[other]);
        }

        /** Only sides that go up or down are met on the way to greater x, from the squares left of them. */
        private void meetSide(int from, int to) {
            if (xs[from] != xs[to]) {
                return;
            }
            long left = xs[from] >= SIDE ? -1L : (1L << xs[from]) - 1;
            int high = Math.max(ys[from], ys[to]);
            for (int y = Math.min(ys[from], ys[to]); y < high; y++) {
                rows[y] ^= left;
            }
        }
    }

    /** The squares of the plan's layers: bit x of a layer's row y. */
    private static final class Layers {
        final long[][] rows = new long[MOST_LAYERS][SIDE];

        void draw(Plan plan, Drawing drawing) {
            for (int layer = 0; layer < plan.layers; layer++) {
                Arrays.fill(rows[layer], 0L);
            }
            for (int polygon = 0; polygon < drawing.polygons; polygon++) {
                drawing.fill(polygon);
                addPolygon(plan, drawing, drawing.inputs[polygon]);
            }
            for (int layer = 0; layer < plan.layers; layer++) {
                if (plan.layerWays[layer] != INPUT) {
                    make(rows[layer], plan.layerWays[layer],
                            rows[plan.layerSources[layer]], rows[plan.layerSeconds[layer]]);
                }
            }
        }

        /** Several layers may be of one input. */
        private void addPolygon(Plan plan, Drawing drawing, int input) {
            for (int layer = 0; layer < plan.layers; layer++) {
                if (plan.layerWays[layer] == INPUT && plan.layerSources[layer] == input) {
                    make(rows[layer], OR, rows[layer], drawing.rows);
                }
            }
        }

        private static void make(long[] made, int way, long[] first, long[] second) {
            for (int y = 0; y < SIDE; y++) {
                if (way == AND) {
                    made[y] = first[y] & second[y];
                } else if (way == OR) {
                    made[y] = first[y] | second[y];
                } else {
                    made[y] = first[y] & ~second[y];
                }
            }
        }
    }

    /** Takes the shapes off a layer, one at a time, in the order of their numbers. */
    private static final class Peeler {
        /** The squares of the shape at hand, as rows and as a list. */
        final long[] rows = new long[SIDE];
        final int[] squares = new int[SQUARES];
        int taken = 0;
        int low = 0;
        int high = NONE;
        private final long[] rest = new long[SIDE];

        void open(long[] layer) {
            System.arraycopy(layer, 0, rest, 0, SIDE);
            dropShape();
            low = 0;
            high = NONE;
        }

        boolean next() {
            dropShape();
            while (low < SIDE && rest[low] == 0) {
                low++;
            }
            high = low;
            if (low >= SIDE) {
                return false;
            }
            take(leftmost(rest[low]), low);
            for (int k = 0; k < SQUARES && k < taken; k++) {
                takeBeside(columnOf(squares[k]), rowOf(squares[k]));
            }
            return true;
        }

        private void dropShape() {
            for (int y = low; y <= high && y < SIDE; y++) {
                rows[y] = 0;
            }
            taken = 0;
        }

        private void takeBeside(int x, int y) {
            take(x - 1, y);
            take(x + 1, y);
            take(x, y - 1);
            take(x, y + 1);
        }

        private void take(int x, int y) {
            if (x < 0 || x >= SIDE || y < 0 || y >= SIDE || (rest[y] >>> x & 1) == 0) {
                return;
            }
            rest[y] ^= 1L << x;
            rows[y] |= 1L << x;
            squares[taken] = squareAt(x, y);
            taken++;
            high = Math.max(high, y);
        }
    }

    /** The shapes of wires as nodes, and the nets that joins make of them. */
    private static final class Nets {
        /** The node that a square is in, for each wire; NONE if it is in none. */
        final int[][] nodeAt = new int[MOST_WIRES][SQUARES];
        int total = 0;
        private final Layers layers;
        private final Peeler peeler;
        /** A lesser node of the same net, or the node itself. */
        private final int[] lesser = new int[MOST_WIRES * MOST_SHAPES];
        private final int[] netOfNode = new int[MOST_WIRES * MOST_SHAPES];
        private int nodes = 0;

        Nets(Layers layers, Peeler peeler) {
            this.layers = layers;
            this.peeler = peeler;
        }

        void find(Plan plan) {
            nodes = 0;
            for (int wire = 0; wire < plan.wires; wire++) {
                findNodes(nodeAt[wire], layers.rows[plan.wireLayers[wire]]);
            }
            for (int join = 0; join < plan.joins; join++) {
                tie(nodeAt[plan.joinFirsts[join]], nodeAt[plan.joinSeconds[join]],
                        layers.rows[plan.joinLayers[join]]);
            }
            numberNets();
        }

        int netAt(int wire, int square) {
            return netOf(nodeAt[wire][square]);
        }

        int netOf(int node) {
            return node == NONE ? NONE : netOfNode[node];
        }

        private void findNodes(int[] nodeAtSquare, long[] layer) {
            Arrays.fill(nodeAtSquare, NONE);
            peeler.open(layer);
            for (int shape = 0; shape < MOST_SHAPES && peeler.next(); shape++) {
                for (int k = 0; k < peeler.taken; k++) {
                    nodeAtSquare[peeler.squares[k]] = nodes;
                }
                lesser[nodes] = nodes;
                nodes++;
            }
        }

        private void tie(int[] first, int[] second, long[] layer) {
            peeler.open(layer);
            for (int shape = 0; shape < MOST_SHAPES && peeler.next(); shape++) {
                int node = NONE;
                for (int k = 0; k < peeler.taken; k++) {
                    node = tieNodes(node, first[peeler.squares[k]]);
                    node = tieNodes(node, second[peeler.squares[k]]);
                }
            }
        }

        /** One of the two, if there is one; both are of one net then. */
        private int tieNodes(int one, int other) {
            if (one == NONE || other == NONE || one == other) {
                return one == NONE ? other : one;
            }
            int least = leastOf(one);
            int otherLeast = leastOf(other);
            lesser[Math.max(least, otherLeast)] = Math.min(least, otherLeast);
            return one;
        }

        /** The least node of a node's net; the way there is halved, so that it stays short. */
        private int leastOf(int node) {
            int at = node;
            for (int steps = 0; steps < nodes && lesser[at] != at; steps++) {
                lesser[at] = lesser[lesser[at]];
                at = lesser[at];
            }
            return at;
        }

        private void numberNets() {
            total = 0;
            for (int node = 0; node < nodes; node++) {
                int least = leastOf(node);
                if (least == node) {
                    netOfNode[node] = total;
                    total++;
                } else {
                    netOfNode[node] = netOfNode[least];
                }
            }
        }
    }

    /** The texts that name nets. */
    private static final class Notes {
        int told = 0;
        private final int[] wires = new int[MOST_NOTES];
        private final int[] squares = new int[MOST_NOTES];
        private final int[] names = new int[MOST_NOTES];
        private final int[] netsNamed = new int[MOST_NOTES];

        void add(int wire, int square, int name) {
            wires[told] = wire;
            squares[told] = square;
            names[told] = name;
            told++;
        }

        void findNets(Plan plan, Nets nets) {
            for (int note = 0; note < told; note++) {
                boolean isWire = wires[note] < plan.wires;
                netsNamed[note] = isWire ? nets.netAt(wires[note], squares[note]) : NONE;
            }
        }

        int leastName(int net) {
            int least = NONE;
            for (int note = 0; note < told; note++) {
                if (netsNamed[note] == net && (least == NONE || names[note] < least)) {
                    least = names[note];
                }
            }
            return least;
        }

        int twiceNamed(int k) {
            if (k >= MOST_NOTES) {
                return NONE;
            }
            int net = nextTwice(NONE);
            for (int passed = 0; passed < k && net != NONE; passed++) {
                net = nextTwice(net);
            }
            return net;
        }

        private int nextTwice(int before) {
            int next = NONE;
            for (int note = 0; note < told; note++) {
                int net = netsNamed[note];
                if (net > before && (next == NONE || net < next) && isTwice(note)) {
                    next = net;
                }
            }
            return next;
        }

        private boolean isTwice(int note) {
            for (int other = 0; other < told; other++) {
                if (netsNamed[other] == netsNamed[note] && names[other] != names[note]) {
                    return true;
                }
            }
            return false;
        }
    }

    /** The place of one device: the shape that the peeler has at hand, with the pins that touch it. */
    private static final class Place {
        private final int[] pinNodes = new int[MOST_PINS];
        private final Layers layers;
        private final Nets nets;
        private final Peeler peeler;
        /** The place's squares and those beside them. */
        private final long[] halo = new long[SIDE];
        private int pins = 0;

        Place(Layers layers, Nets nets, Peeler peeler) {
            this.layers = layers;
            this.nets = nets;
            this.peeler = peeler;
        }

        /** Finds the pins: whether the device is bad. */
        boolean findPins(Plan plan, int kind) {
            layHalo();
            boolean isBad = false;
            int first = kind * MOST_PINS;
            pins = 0;
            for (int k = 0; k < plan.pinCounts[kind]; k++) {
                pinNodes[k] = firstFree(plan, plan.pinWires[first + k]);
                isBad = isBad || pinNodes[k] == NONE;
                pins++;
            }
            for (int k = 0; k < plan.pinCounts[kind]; k++) {
                isBad = isBad || firstFree(plan, plan.pinWires[first + k]) != NONE;
            }
            return isBad;
        }

        int netOfPin(int k) {
            return nets.netOf(pinNodes[k]);
        }

        int edges() {
            int edges = 0;
            for (int y = peeler.low; y <= peeler.high; y++) {
                long own = peeler.rows[y];
                edges += Long.bitCount(own & ~(own << 1));
                edges += Long.bitCount(own & ~(own >>> 1));
                edges += Long.bitCount(own & ~rowAt(peeler.rows, y - 1));
                edges += Long.bitCount(own & ~rowAt(peeler.rows, y + 1));
            }
            return edges;
        }

        int edgesToFirstPin(Plan plan, int kind) {
            if (pinNodes[0] == NONE) {
                return 0;
            }
            int wire = plan.pinWires[kind * MOST_PINS];
            int edges = 0;
            for (int y = lowest(); y <= highest(); y++) {
                long beside = halo[y] & ~peeler.rows[y] & layers.rows[plan.wireLayers[wire]][y];
                for (int left = Long.bitCount(beside); left > 0; left--) {
                    int x = leftmost(beside);
                    beside &= beside - 1;
                    if (nets.nodeAt[wire][squareAt(x, y)] == pinNodes[0]) {
                        edges += edgesAround(x, y);
                    }
                }
            }
            return edges;
        }

        /** How many edges a square that is not the place's own has in common with the place. */
        private int edgesAround(int x, int y) {
            long bit = 1L << x;
            return Long.bitCount(peeler.rows[y] & (bit << 1 | bit >>> 1))
                    + Long.bitCount(rowAt(peeler.rows, y - 1) & bit)
                    + Long.bitCount(rowAt(peeler.rows, y + 1) & bit);
        }

        private void layHalo() {
            for (int y = lowest(); y <= highest(); y++) {
                long own = peeler.rows[y];
                halo[y] = own | own << 1 | own >>> 1
                        | rowAt(peeler.rows, y - 1) | rowAt(peeler.rows, y + 1);
            }
        }

        /** The first node of a wire that touches the place and that no pin so far has. */
        private int firstFree(Plan plan, int wire) {
            int first = NONE;
            for (int y = lowest(); y <= highest(); y++) {
                long touched = halo[y] & layers.rows[plan.wireLayers[wire]][y];
                for (int left = Long.bitCount(touched); left > 0; left--) {
                    int node = nets.nodeAt[wire][squareAt(leftmost(touched), y)];
                    touched &= touched - 1;
                    if ((first == NONE || node < first) && isFree(node)) {
                        first = node;
                    }
                }
            }
            return first;
        }

        private boolean isFree(int node) {
            for (int k = 0; k < pins; k++) {
                if (pinNodes[k] == node) {
                    return false;
                }
            }
            return true;
        }

        private int lowest() {
            return Math.max(0, peeler.low - 1);
        }

        private int highest() {
            return Math.min(SIDE - 1, peeler.high + 1);
        }
    }

    /** The devices that were found. */
    private static final class Devices {
        final int[] kinds = new int[MOST_DEVICES];
        final int[] shapes = new int[MOST_DEVICES];
        final int[] faults = new int[MOST_DEVICES];
        final int[] firsts = new int[MOST_DEVICES];
        final int[] sizes = new int[MOST_DEVICES * SIZES];
        final int[] pinNets = new int[MOST_DEVICES * MOST_PINS];
        /** For each kind, how many devices there are when parallel ones are one. */
        final int[] different = new int[MOST_KINDS];
        int total = 0;
        private final Layers layers;
        private final Peeler peeler;
        private final Place place;

        Devices(Layers layers, Peeler peeler, Place place) {
            this.layers = layers;
            this.peeler = peeler;
            this.place = place;
        }

        /** Whether there was room for all. */
        boolean find(Plan plan) {
            total = 0;
            for (int kind = 0; kind < plan.kinds; kind++) {
                peeler.open(layers.rows[plan.kindLayers[kind]]);
                different[kind] = 0;
                for (int shape = 0; shape < MOST_SHAPES && peeler.next(); shape++) {
                    if (total >= MOST_DEVICES) {
                        return false;
                    }
                    add(plan, kind, shape);
                }
            }
            return true;
        }

        int faulty(int k) {
            int passed = 0;
            for (int device = 0; device < total; device++) {
                if (faults[device] == 1) {
                    if (passed == k) {
                        return device;
                    }
                    passed++;
                }
            }
            return NONE;
        }

        private void add(Plan plan, int kind, int shape) {
            kinds[total] = kind;
            shapes[total] = shape;
            faults[total] = place.findPins(plan, kind) ? 1 : 0;
            firsts[total] = peeler.squares[0];
            sizes[total * SIZES] = peeler.taken;
            sizes[total * SIZES + 1] = place.edges();
            sizes[total * SIZES + 2] = place.edgesToFirstPin(plan, kind);
            for (int k = 0; k < plan.pinCounts[kind]; k++) {
                pinNets[total * MOST_PINS + k] = place.netOfPin(k);
            }
            if (faults[total] == 0 && !hasParallel(total, plan.pinCounts[kind])) {
                different[kind]++;
            }
            total++;
        }

        private boolean hasParallel(int device, int pins) {
            for (int before = 0; before < device; before++) {
                if (kinds[before] == kinds[device] && faults[before] == 0
                        && haveSameNets(before, device, pins)) {
                    return true;
                }
            }
            return false;
        }

        private boolean haveSameNets(int one, int other, int pins) {
            for (int k = 0; k < pins; k++) {
                if (pinNets[one * MOST_PINS + k] != pinNets[other * MOST_PINS + k]) {
                    return false;
                }
            }
            return true;
        }
    }
}

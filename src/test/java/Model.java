import java.util.ArrayList;
import java.util.Arrays;
import java.util.HashMap;
import java.util.HashSet;
import java.util.LinkedHashMap;
import java.util.List;
import java.util.Map;
import java.util.Set;
import java.util.TreeSet;
import java.util.regex.Matcher;
import java.util.regex.Pattern;

/** The document's words done in the slowest and plainest way, to hold DeviceFind against. */
final class Model {
    private record Spot(int x, int y) {
        List<Spot> beside() {
            return List.of(new Spot(x - 1, y), new Spot(x + 1, y), new Spot(x, y - 1), new Spot(x, y + 1));
        }
    }

    private record Polygon(int input, List<Spot> corners) {
    }

    private record Note(int wire, Spot at, int name) {
    }

    private record Join(int first, int second, String by) {
    }

    private record Kind(String layer, List<Integer> wires) {
    }

    private record Node(int wire, int shape) {
    }

    private record Device(int kind, int shape, boolean bad, Spot first, long[] sizes, List<Integer> nets) {
    }

    private static final class Program {
        final Map<String, List<String>> layers = new LinkedHashMap<>();
        final List<String> wires = new ArrayList<>();
        final List<Join> joins = new ArrayList<>();
        final Map<String, Kind> kinds = new LinkedHashMap<>();
    }

    private final int inputs;
    private final StringBuilder tape = new StringBuilder();
    private final List<Polygon> polygons = new ArrayList<>();
    private final List<Note> notes = new ArrayList<>();
    private Program program = null;
    private boolean found = false;
    private final List<List<Set<Spot>>> wireShapes = new ArrayList<>();
    private final Map<Node, Integer> netOf = new HashMap<>();
    private final List<Device> devices = new ArrayList<>();
    private final List<TreeSet<Integer>> names = new ArrayList<>();

    Model(int layers) {
        inputs = layers < 1 ? 1 : layers > 65536 ? 65536 : layers;
    }

    boolean unit(int u) {
        if (u != 10 && (u < 32 || u > 126) || tape.length() == 800) {
            return false;
        }
        tape.append((char) u);
        return true;
    }

    boolean units(int four) {
        String more = "";
        for (int u : new int[] {four >>> 24, four >> 16 & 255, four >> 8 & 255, four & 255}) {
            if (u != 0) {
                if (u != 10 && (u < 32 || u > 126)) {
                    return false;
                }
                more += (char) u;
            }
        }
        if (tape.length() + more.length() > 800) {
            return false;
        }
        tape.append(more);
        return true;
    }

    int read() {
        List<String> words = new ArrayList<>();
        Matcher matcher = Pattern.compile("[a-z]+|[0-9]+|[^ \n]").matcher(tape);
        while (matcher.find()) {
            words.add(matcher.group());
        }
        tape.setLength(0);
        Program next = new Program();
        int at = 0;
        while (at < words.size()) {
            int length = 0;
            while (canStand(next, words.subList(at, at + length + 1))) {
                length++;
                if (words.get(at + length - 1).equals(";")) {
                    break;
                }
                if (at + length == words.size()) {
                    return -1 - words.size();
                }
            }
            if (length == 0 || !words.get(at + length - 1).equals(";")) {
                return -1 - (at + length);
            }
            tell(next, words.subList(at, at + length));
            at += length;
        }
        program = next;
        found = false;
        return next.kinds.size();
    }

    /** Whether the last word of a sentence's beginning, whose other words are right, can stand there. */
    private boolean canStand(Program p, List<String> s) {
        String word = s.get(s.size() - 1);
        int place = s.size() - 1;
        if (word.matches("[a-z]{9,}|[0-9]{7,}|[^a-z0-9=;]")) {
            return false;
        }
        boolean isName = word.matches("[a-z]+");
        boolean isLayer = p.layers.containsKey(word);
        boolean isWire = p.wires.contains(word);
        if (place == 0) {
            return switch (word) {
                case "input", "make" -> p.layers.size() < 24;
                case "wire" -> p.wires.size() < 8;
                case "join" -> p.joins.size() < 16;
                case "device" -> p.kinds.size() < 8;
                default -> false;
            };
        }
        switch (s.get(0)) {
            case "input":
                return place == 1 && isName && !isLayer || place == 2 && word.equals("=")
                        || place == 3 && word.matches("[0-9]+") && Integer.parseInt(word) < inputs
                        || place == 4 && word.equals(";");
            case "make":
                return place == 1 && isName && !isLayer || place == 2 && word.equals("=")
                        || (place == 3 || place == 5) && isLayer || place == 4 && word.matches("and|or|less")
                        || place == 6 && word.equals(";");
            case "wire":
                return place == 1 && isLayer && !isWire || place == 2 && word.equals(";");
            case "join":
                return (place == 1 || place == 2) && isWire || place == 3 && word.equals("by")
                        || place == 4 && isLayer || place == 5 && word.equals(";");
            default:
                return place == 1 && isName && !p.kinds.containsKey(word) || place == 2 && word.equals("=")
                        || place == 3 && isLayer || place == 4 && word.equals("pins")
                        || place >= 5 && place <= 8 && isWire || place >= 6 && place <= 9 && word.equals(";");
        }
    }

    private static void tell(Program p, List<String> s) {
        switch (s.get(0)) {
            case "input" -> p.layers.put(s.get(1), List.of("input", s.get(3)));
            case "make" -> p.layers.put(s.get(1), List.of(s.get(4), s.get(3), s.get(5)));
            case "wire" -> p.wires.add(s.get(1));
            case "join" -> p.joins.add(new Join(p.wires.indexOf(s.get(1)), p.wires.indexOf(s.get(2)), s.get(4)));
            default -> p.kinds.put(s.get(1), new Kind(s.get(3),
                    s.subList(5, s.size() - 1).stream().map(p.wires::indexOf).toList()));
        }
    }

    int polygon(int input) {
        bounds(input >= 0 && input < inputs);
        state(polygons.size() < 60);
        polygons.add(new Polygon(input, new ArrayList<>()));
        found = false;
        return polygons.size() - 1;
    }

    boolean corner(int polygon, long x, long y) {
        bounds(polygon >= 0 && polygon < polygons.size());
        List<Spot> corners = polygons.get(polygon).corners();
        state(corners.size() < 16);
        argument(x >= 0 && x <= 64 && y >= 0 && y <= 64);
        Spot spot = new Spot((int) x, (int) y);
        if (!corners.isEmpty() && !differInOne(corners.get(corners.size() - 1), spot)) {
            return false;
        }
        corners.add(spot);
        found = false;
        return true;
    }

    private static boolean differInOne(Spot a, Spot b) {
        return a.x == b.x && a.y != b.y || a.x != b.x && a.y == b.y;
    }

    int text(int wire, long x, long y, int name) {
        bounds(wire >= 0 && wire <= 7 && x >= 0 && x <= 63 && y >= 0 && y <= 63);
        state(notes.size() < 40);
        argument(name >= 0);
        notes.add(new Note(wire, new Spot((int) x, (int) y), name));
        found = false;
        return notes.size();
    }

    int run() {
        state(program != null);
        found = false;
        Map<String, Set<Spot>> layers = layers();
        findNets(layers);
        devices.clear();
        int kind = 0;
        for (Kind k : program.kinds.values()) {
            int number = 0;
            for (Set<Spot> place : shapes(layers.get(k.layer))) {
                devices.add(device(kind, number, k, place));
                number++;
            }
            kind++;
        }
        if (devices.size() > 300) {
            throw new UnsupportedOperationException();
        }
        found = true;
        return devices.size();
    }

    private Map<String, Set<Spot>> layers() {
        Map<String, Set<Spot>> layers = new HashMap<>();
        for (Map.Entry<String, List<String>> e : program.layers.entrySet()) {
            List<String> way = e.getValue();
            Set<Spot> squares = new HashSet<>();
            if (way.get(0).equals("input")) {
                for (Polygon p : polygons) {
                    if (p.input == Integer.parseInt(way.get(1))) {
                        squares.addAll(squares(p.corners));
                    }
                }
            } else {
                squares.addAll(layers.get(way.get(1)));
                Set<Spot> second = layers.get(way.get(2));
                switch (way.get(0)) {
                    case "and" -> squares.retainAll(second);
                    case "or" -> squares.addAll(second);
                    default -> squares.removeAll(new HashSet<>(second));
                }
            }
            layers.put(e.getKey(), squares);
        }
        return layers;
    }

    private static Set<Spot> squares(List<Spot> corners) {
        Set<Spot> squares = new HashSet<>();
        if (corners.size() < 4 || !differInOne(corners.get(0), corners.get(corners.size() - 1))) {
            return squares;
        }
        for (int y = 0; y < 64; y++) {
            for (int x = 0; x < 64; x++) {
                int met = 0;
                for (int k = 0; k < corners.size(); k++) {
                    Spot a = corners.get(k);
                    Spot b = corners.get((k + 1) % corners.size());
                    if (a.x == b.x && a.x > x + 0.5 && Math.min(a.y, b.y) < y + 0.5 && Math.max(a.y, b.y) > y + 0.5) {
                        met++;
                    }
                }
                if (met % 2 == 1) {
                    squares.add(new Spot(x, y));
                }
            }
        }
        return squares;
    }

    private static List<Set<Spot>> shapes(Set<Spot> layer) {
        Set<Spot> left = new HashSet<>(layer);
        List<Set<Spot>> shapes = new ArrayList<>();
        while (!left.isEmpty()) {
            Set<Spot> shape = new HashSet<>();
            List<Spot> open = new ArrayList<>(List.of(left.iterator().next()));
            left.remove(open.get(0));
            while (!open.isEmpty()) {
                Spot spot = open.remove(open.size() - 1);
                shape.add(spot);
                for (Spot s : spot.beside()) {
                    if (left.remove(s)) {
                        open.add(s);
                    }
                }
            }
            shapes.add(shape);
        }
        shapes.sort((a, b) -> order(first(a)) - order(first(b)));
        return shapes;
    }

    private static int order(Spot s) {
        return s.y * 64 + s.x;
    }

    private static Spot first(Set<Spot> shape) {
        int row = shape.stream().mapToInt(Spot::y).min().getAsInt();
        int column = shape.stream().filter(s -> s.y == row).mapToInt(Spot::x).min().getAsInt();
        return new Spot(column, row);
    }

    private void findNets(Map<String, Set<Spot>> layers) {
        wireShapes.clear();
        List<Node> nodes = new ArrayList<>();
        for (String wire : program.wires) {
            List<Set<Spot>> shapes = shapes(layers.get(wire));
            for (int k = 0; k < shapes.size(); k++) {
                nodes.add(new Node(wireShapes.size(), k));
            }
            wireShapes.add(shapes);
        }
        Map<Node, Set<Node>> groups = new HashMap<>();
        for (Node n : nodes) {
            groups.put(n, new HashSet<>(Set.of(n)));
        }
        for (Join j : program.joins) {
            for (Set<Spot> by : shapes(layers.get(j.by))) {
                Set<Node> all = new HashSet<>();
                for (Node n : nodes) {
                    boolean ofJoin = n.wire == j.first || n.wire == j.second;
                    if (ofJoin && by.stream().anyMatch(squares(n)::contains)) {
                        all.addAll(groups.get(n));
                    }
                }
                for (Node n : all) {
                    groups.put(n, all);
                }
            }
        }
        netOf.clear();
        names.clear();
        for (Node n : nodes) {
            if (!netOf.containsKey(n)) {
                for (Node m : groups.get(n)) {
                    netOf.put(m, names.size());
                }
                names.add(new TreeSet<>());
            }
        }
        for (Note note : notes) {
            int net = note.wire < wireShapes.size() ? netAt(note.wire, note.at) : -1;
            if (net >= 0) {
                names.get(net).add(note.name);
            }
        }
    }

    private Set<Spot> squares(Node n) {
        return wireShapes.get(n.wire).get(n.shape);
    }

    private int netAt(int wire, Spot at) {
        for (int shape = 0; shape < wireShapes.get(wire).size(); shape++) {
            if (wireShapes.get(wire).get(shape).contains(at)) {
                return netOf.get(new Node(wire, shape));
            }
        }
        return -1;
    }

    private static boolean touch(Set<Spot> a, Set<Spot> b) {
        return a.stream().anyMatch(s -> b.contains(s) || s.beside().stream().anyMatch(b::contains));
    }

    private Device device(int kind, int shape, Kind k, Set<Spot> place) {
        List<Node> pins = new ArrayList<>();
        Set<Node> touching = new HashSet<>();
        for (int wire : k.wires) {
            Node pin = null;
            for (int s = wireShapes.get(wire).size() - 1; s >= 0; s--) {
                Node node = new Node(wire, s);
                if (touch(place, squares(node))) {
                    touching.add(node);
                    pin = pins.contains(node) ? pin : node;
                }
            }
            pins.add(pin);
        }
        boolean bad = pins.contains(null) || !pins.containsAll(touching);
        long[] sizes = {place.size(), 0, 0};
        for (Spot s : place) {
            for (Spot b : s.beside()) {
                sizes[1] += place.contains(b) ? 0 : 1;
                sizes[2] += !place.contains(b) && pins.get(0) != null && squares(pins.get(0)).contains(b) ? 1 : 0;
            }
        }
        List<Integer> nets = new ArrayList<>();
        for (Node pin : pins) {
            nets.add(pin == null ? -1 : netOf.get(pin));
        }
        return new Device(kind, shape, bad, first(place), sizes, nets);
    }

    int device(int k, int what) {
        bounds(what >= 0 && what <= 4);
        state(found);
        bounds(k >= 0 && k < devices.size());
        Device d = devices.get(k);
        return new int[] {d.kind, d.shape, d.bad ? 1 : 0, d.first.x, d.first.y}[what];
    }

    long size(int device, int which) {
        bounds(which >= 0 && which <= 2);
        state(found);
        bounds(device >= 0 && device < devices.size());
        return devices.get(device).sizes[which];
    }

    int pin(int device, int k) {
        state(found);
        bounds(device >= 0 && device < devices.size());
        bounds(k >= 0 && k < devices.get(device).nets.size());
        return devices.get(device).nets.get(k);
    }

    int net(int wire, long x, long y) {
        bounds(x >= 0 && x <= 63 && y >= 0 && y <= 63);
        state(found);
        bounds(wire >= 0 && wire < wireShapes.size());
        return netAt(wire, new Spot((int) x, (int) y));
    }

    int named(int net) {
        state(found);
        bounds(net >= 0 && net < names.size());
        return names.get(net).isEmpty() ? -1 : names.get(net).first();
    }

    int twice(int k) {
        bounds(k >= 0);
        state(found);
        List<Integer> all = new ArrayList<>();
        for (int net = 0; net < names.size(); net++) {
            if (names.get(net).size() > 1) {
                all.add(net);
            }
        }
        return k < all.size() ? all.get(k) : -1;
    }

    int bad(int k) {
        bounds(k >= 0);
        state(found);
        List<Integer> all = new ArrayList<>();
        for (int d = 0; d < devices.size(); d++) {
            if (devices.get(d).bad) {
                all.add(d);
            }
        }
        return k < all.size() ? all.get(k) : -1;
    }

    int joined(int kind) {
        state(found);
        bounds(kind >= 0 && kind < program.kinds.size());
        Set<List<Integer>> different = new HashSet<>();
        for (Device d : devices) {
            if (d.kind == kind && !d.bad) {
                different.add(d.nets);
            }
        }
        return different.size();
    }

    int count(int what) {
        bounds(what >= 0 && what <= 8);
        Program p = program == null ? new Program() : program;
        return Arrays.asList(p.layers.size(), p.wires.size(), p.joins.size(), p.kinds.size(),
                found ? devices.size() : 0, found ? names.size() : 0, polygons.size(), notes.size(),
                tape.length()).get(what);
    }

    private static void bounds(boolean is) {
        if (!is) {
            throw new IndexOutOfBoundsException();
        }
    }

    private static void state(boolean is) {
        if (!is) {
            throw new IllegalStateException();
        }
    }

    private static void argument(boolean is) {
        if (!is) {
            throw new IllegalArgumentException();
        }
    }
}

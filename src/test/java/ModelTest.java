import java.util.ArrayList;
import java.util.List;
import java.util.Random;
import java.util.concurrent.Callable;

/** All promises: runs of up to 512 calls, made by a seeded generator, on DeviceFind and on the plain model. */
public final class ModelTest {
    private static final int RUNS = 1500;
    private static final int CALLS = 512;
    private static final String[] NAMES = {"a", "b", "c", "d", "e", "f", "wire", "pins", "and", "by", "input", "qqqqqqqq"};

    private final int seed;
    private final Random random;
    private final int inputs;
    private final int spread;
    private final DeviceFind real;
    private final Model model;
    private int calls = 0;

    private ModelTest(int seed) {
        this.seed = seed;
        random = new Random(seed);
        inputs = 1 + random.nextInt(4);
        spread = random.nextInt(8) == 0 ? 64 : 8 + random.nextInt(22);
        real = new DeviceFind(inputs);
        model = new Model(inputs);
    }

    public static void main(String[] args) {
        for (int seed = 0; seed < RUNS; seed++) {
            new ModelTest(seed).play();
        }
        Check.end();
    }

    private void call(String what, Callable<?> ofReal, Callable<?> ofModel) {
        calls++;
        Check.same("run " + seed + ", call " + calls + ": " + what, Check.answer(ofModel), Check.answer(ofReal));
    }

    private void play() {
        readText(rightText());
        while (calls < CALLS - 150) {
            int dice = random.nextInt(100);
            if (dice < 40) {
                drawPolygon();
            } else if (dice < 50) {
                text();
            } else if (dice < 60) {
                call("run()", real::run, model::run);
            } else if (dice < 62 && calls < CALLS - 360) {
                readText(random.nextBoolean() ? rightText() : wrongText(rightText()));
            } else {
                ask();
            }
        }
        call("run()", real::run, model::run);
        while (calls < CALLS) {
            ask();
        }
    }

    private void readText(String text) {
        int four = 0;
        int packed = 0;
        for (int k = 0; k < text.length(); k++) {
            four = four << 8 | text.charAt(k);
            packed++;
            if (packed == 4 || k == text.length() - 1) {
                int units = four;
                call("units(" + units + ")", () -> real.units(units), () -> model.units(units));
                four = 0;
                packed = 0;
            }
        }
        call("read() of " + text, real::read, model::read);
    }

    private String name() {
        return NAMES[random.nextInt(NAMES.length)];
    }

    private static String any(List<String> names, Random random) {
        return names.get(random.nextInt(names.size()));
    }

    private String blank() {
        return new String[] {" ", " ", " ", " ", "\n", "  "}[random.nextInt(6)];
    }

    private String sign(String s) {
        return random.nextInt(4) > 0 ? s : blank() + s + blank();
    }

    /** A text in which nearly all is right: layers, then wires, joins and kinds, now and then mixed. */
    private String rightText() {
        StringBuilder text = new StringBuilder();
        List<String> layers = new ArrayList<>();
        List<String> wires = new ArrayList<>();
        List<String> kinds = new ArrayList<>();
        int sentences = random.nextInt(8) == 0 ? random.nextInt(4) : 12 + random.nextInt(16);
        for (int k = 0; k < sentences && text.length() < 700; k++) {
            String name = name();
            int sort = random.nextInt(10);
            boolean isNew = !layers.contains(name);
            if (layers.size() < inputs && isNew && sort < 8) {
                layers.add(name);
                text.append("input" + blank() + name + sign("=") + random.nextInt(inputs) + sign(";"));
            } else if (sort < 2 && isNew && !layers.isEmpty()) {
                String way = new String[] {"and", "or", "less"}[random.nextInt(3)];
                text.append("make" + blank() + name + sign("=") + any(layers, random) + blank() + way + blank()
                        + any(layers, random) + sign(";"));
                layers.add(name);
            } else if (sort < 5 && !isNew && !wires.contains(name)) {
                wires.add(name);
                text.append("wire" + blank() + name + sign(";"));
            } else if (sort < 7 && !wires.isEmpty()) {
                text.append("join" + blank() + any(wires, random) + blank() + any(wires, random) + blank() + "by"
                        + blank() + any(layers, random) + sign(";"));
            } else if (sort < 10 && !wires.isEmpty() && !kinds.contains(name)) {
                kinds.add(name);
                text.append("device" + blank() + name + sign("=") + any(layers, random) + blank() + "pins");
                int pins = 1 + random.nextInt(4);
                for (int p = 0; p < pins; p++) {
                    text.append(blank() + any(wires, random));
                }
                text.append(sign(";"));
            }
        }
        return text.toString();
    }

    private String wrongText(String text) {
        StringBuilder wrong = new StringBuilder(text);
        int changes = 1 + random.nextInt(2);
        for (int k = 0; k < changes && wrong.length() > 0; k++) {
            int at = random.nextInt(wrong.length());
            String more = new String[] {";", "=", " ", "a", "b", "0", "9", "wire", "A", "_", "or"}[random.nextInt(11)];
            switch (random.nextInt(4)) {
                case 0 -> wrong.insert(at, more);
                case 1 -> wrong.deleteCharAt(at);
                case 2 -> wrong.setLength(at);
                default -> wrong.replace(at, at + 1, more);
            }
        }
        return wrong.toString();
    }

    private void drawPolygon() {
        int input = random.nextInt(20) == 0 ? random.nextInt(8) - 2 : random.nextInt(inputs);
        int polygon = model.count(6);
        call("polygon(" + input + ")", () -> real.polygon(input), () -> model.polygon(input));
        int x = random.nextInt(spread);
        int y = random.nextInt(spread);
        if (random.nextInt(6) > 0) {
            int right = Math.min(64, x + 1 + random.nextInt(random.nextBoolean() ? 2 : 6));
            int top = Math.min(64, y + 1 + random.nextInt(random.nextBoolean() ? 2 : 6));
            corner(polygon, x, y);
            corner(polygon, right, y);
            corner(polygon, right, top);
            corner(polygon, x, top);
            return;
        }
        int corners = 1 + random.nextInt(17);
        int startX = x;
        corner(polygon, x, y);
        for (int k = 1; k < corners; k++) {
            boolean isLast = k == corners - 1;
            if (k % 2 == 1) {
                x = isLast ? startX : random.nextInt(spread + 1);
            } else {
                y = random.nextInt(spread + 1);
            }
            corner(polygon, x, y);
        }
        corner(polygon, startX, y);
    }

    private void corner(int polygon, long x, long y) {
        int of = random.nextInt(100) == 0 ? random.nextInt(64) - 2 : polygon;
        long cx = random.nextInt(100) == 0 ? random.nextInt(70) - 3 : x;
        call("corner(" + of + ", " + cx + ", " + y + ")", () -> real.corner(of, cx, y), () -> model.corner(of, cx, y));
    }

    private void text() {
        int wire = random.nextInt(20) == 0 ? random.nextInt(12) - 2 : random.nextInt(Math.max(1, model.count(1)));
        long x = random.nextInt(30) == 0 ? random.nextInt(68) - 2 : random.nextInt(spread);
        long y = random.nextInt(30) == 0 ? random.nextInt(68) - 2 : random.nextInt(spread);
        int name = random.nextInt(5) - (random.nextInt(10) == 0 ? 1 : 0);
        call("text(" + wire + ", " + x + ", " + y + ", " + name + ")",
                () -> real.text(wire, x, y, name), () -> model.text(wire, x, y, name));
    }

    /** A number of a thing of which there are some, or one that is a little off. */
    private int near(int many) {
        return random.nextInt(12) == 0 ? random.nextInt(many + 4) - 2 : random.nextInt(Math.max(1, many));
    }

    private void ask() {
        int device = near(model.count(4));
        int net = near(model.count(5));
        int kind = near(model.count(3));
        int wire = near(model.count(1));
        int small = near(5);
        long x = near(spread);
        long y = near(spread);
        switch (random.nextInt(10)) {
            case 0, 1 -> call("device(" + device + ", " + small + ")",
                    () -> real.device(device, small), () -> model.device(device, small));
            case 2 -> call("size(" + device + ", " + small + ")",
                    () -> real.size(device, small), () -> model.size(device, small));
            case 3 -> call("pin(" + device + ", " + small + ")",
                    () -> real.pin(device, small), () -> model.pin(device, small));
            case 4 -> call("net(" + wire + ", " + x + ", " + y + ")",
                    () -> real.net(wire, x, y), () -> model.net(wire, x, y));
            case 5 -> call("named(" + net + ")", () -> real.named(net), () -> model.named(net));
            case 6 -> call("twice(" + small + ")", () -> real.twice(small), () -> model.twice(small));
            case 7 -> call("bad(" + device + ")", () -> real.bad(device), () -> model.bad(device));
            case 8 -> call("joined(" + kind + ")", () -> real.joined(kind), () -> model.joined(kind));
            default -> {
                int what = near(9);
                call("count(" + what + ")", () -> real.count(what), () -> model.count(what));
            }
        }
    }
}

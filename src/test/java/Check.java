import java.util.concurrent.Callable;

/** Counts answers that are not the ones that are due; every test ends with {@link #end()}. */
final class Check {
    private static int asked = 0;
    private static int wrong = 0;
    private static String sentence = "";

    private Check() {
    }

    /** A test of one sentence of the document: it fails, too, if it asks nothing or does not come to its end. */
    static void sentence(String words, Runnable test) {
        int before = asked;
        sentence = words;
        try {
            test.run();
        } catch (RuntimeException e) {
            same("the test of the sentence", "its end", e);
        }
        if (asked == before) {
            same("the test of the sentence", "answers", "none");
        }
        sentence = "";
    }

    /** What a call answers as text: a number (a boolean counts 1 or 0), or throws. and the exception's name. */
    static String answer(Callable<?> call) {
        try {
            Object got = call.call();
            if (got instanceof Boolean) {
                return (Boolean) got ? "1" : "0";
            }
            return String.valueOf(got);
        } catch (Exception e) {
            return "throws." + e.getClass().getSimpleName();
        }
    }

    static void due(String what, Object want, Callable<?> call) {
        same(what, want, answer(call));
    }

    static void same(String what, Object want, Object got) {
        asked++;
        if (!String.valueOf(want).equals(String.valueOf(got))) {
            wrong++;
            String of = sentence.isEmpty() ? "" : " (" + sentence + ")";
            System.out.println(what + " answered " + got + ", due is " + want + of);
        }
    }

    static void tape(DeviceFind x, String text) {
        for (int k = 0; k < text.length(); k += 4) {
            int four = 0;
            for (int j = k; j < k + 4; j++) {
                four = four << 8 | (j < text.length() ? text.charAt(j) : 0);
            }
            if (!x.units(four)) {
                same("room for " + text, true, false);
            }
        }
    }

    static int read(DeviceFind x, String text) {
        tape(x, text);
        return x.read();
    }

    /** A new object with so many inputs that has read a right text of so many kinds. */
    static DeviceFind reading(int layers, int kinds, String text) {
        DeviceFind x = new DeviceFind(layers);
        same("read of " + text, kinds, read(x, text));
        return x;
    }

    /** A polygon of an input with corners x, y, x, y ..: its number. */
    static int polygon(DeviceFind x, int input, int... corners) {
        int polygon = x.polygon(input);
        for (int k = 0; k < corners.length; k += 2) {
            same("corner", true, x.corner(polygon, corners[k], corners[k + 1]));
        }
        return polygon;
    }

    /** The rectangle of squares from (x, y) on. */
    static int rectangle(DeviceFind d, int input, int x, int y, int width, int height) {
        return polygon(d, input, x, y, x + width, y, x + width, y + height, x, y + height);
    }

    /** One square of an input. */
    static int square(DeviceFind d, int input, int x, int y) {
        return rectangle(d, input, x, y, 1, 1);
    }

    /** The squares of a wire from (0, 0) on, as rows from y = 0 on parted by blanks. */
    static String picture(DeviceFind x, int wire, int width, int height) {
        StringBuilder all = new StringBuilder();
        for (int y = 0; y < height; y++) {
            all.append(y == 0 ? "" : " ");
            for (int column = 0; column < width; column++) {
                all.append(x.net(wire, column, y) == DeviceFind.NONE ? '.' : '#');
            }
        }
        return all.toString();
    }

    static void end() {
        if (wrong == 0 && asked > 0) {
            System.out.println(asked + " answers are as due");
            return;
        }
        System.out.println(wrong + " of " + asked + " answers are not as due");
        System.exit(1);
    }
}

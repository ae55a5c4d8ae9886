/** Promises 1 to 4: a new object, unit, units and read, with the counts that tell of them. */
public final class TextTest {
    private static final String BOUNDS = "throws.IndexOutOfBoundsException";
    private static final String STATE = "throws.IllegalStateException";

    public static void main(String[] args) {
        newObject();
        unit();
        units();
        words();
        wrongWords();
        cutTexts();
        limits();
        fullTapes();
        textStays();
        textsOneAfterAnother();
        Check.end();
    }

    private static void newObject() {
        for (int layers : new int[] {Integer.MIN_VALUE, -1, 0, 1}) {
            DeviceFind x = new DeviceFind(layers);
            Check.due("1 input: polygon(0)", 0, () -> x.polygon(0));
            Check.due("1 input: polygon(1)", BOUNDS, () -> x.polygon(1));
            Check.same("1 input: text", -4, Check.read(x, "input a = 1;"));
        }
        for (int layers : new int[] {65536, 65537, Integer.MAX_VALUE}) {
            DeviceFind x = new DeviceFind(layers);
            Check.due("65536 inputs: polygon(65535)", 0, () -> x.polygon(65535));
            Check.due("65536 inputs: polygon(65536)", BOUNDS, () -> x.polygon(65536));
            Check.same("65536 inputs: text", 0, Check.read(x, "input a = 65535;"));
            Check.same("65536 inputs: text", -4, Check.read(x, "input a = 65536;"));
        }
        DeviceFind few = new DeviceFind(3);
        Check.due("3 inputs: polygon(2)", 0, () -> few.polygon(2));
        Check.due("3 inputs: polygon(3)", BOUNDS, () -> few.polygon(3));
        DeviceFind fresh = new DeviceFind(4);
        for (int what = 0; what <= 8; what++) {
            int w = what;
            Check.due("a new object's count " + what, 0, () -> fresh.count(w));
        }
        Check.due("run without a text", STATE, fresh::run);
    }

    private static void unit() {
        DeviceFind x = new DeviceFind(1);
        int[] none = {Integer.MIN_VALUE, -1, 0, 9, 11, 13, 31, 127, 128, 255, 256 + 65, 65536 + 65};
        for (int u : none) {
            Check.due("unit " + u, 0, () -> x.unit(u));
        }
        Check.due("characters", 0, () -> x.count(8));
        int length = 0;
        for (int u = 32; u <= 126; u++) {
            int character = u;
            Check.due("unit " + u, 1, () -> x.unit(character));
            length++;
        }
        Check.due("unit 10", 1, () -> x.unit(10));
        length++;
        Check.due("characters", length, () -> x.count(8));
        Check.tape(x, " ".repeat(799 - length));
        Check.due("unit within 800", 1, () -> x.unit(' '));
        Check.due("unit beyond 800", 0, () -> x.unit(' '));
        Check.due("characters", 800, () -> x.count(8));
        Check.due("read", -1, x::read);
        Check.due("characters after read", 0, () -> x.count(8));
    }

    private static void units() {
        DeviceFind x = new DeviceFind(1);
        Check.due("units of 0s", 1, () -> x.units(0));
        Check.due("characters", 0, () -> x.count(8));
        Check.due("the highest byte first", 1, () -> x.units('a' << 24 | 'b' << 16 | 'c' << 8 | 'd'));
        Check.due("0s between", 1, () -> x.units('e' << 24 | ';'));
        Check.due("characters", 6, () -> x.count(8));
        Check.due("units with 31", 0, () -> x.units('a' << 24 | 'b' << 16 | 'c' << 8 | 31));
        Check.due("units with 127", 0, () -> x.units(127 << 24 | 'b' << 16 | 'c' << 8 | 'a'));
        Check.due("units with 255", 0, () -> x.units(255 << 24 | 'b' << 16 | 'c' << 8 | 'a'));
        Check.due("units of -1", 0, () -> x.units(-1));
        Check.due("characters stay", 6, () -> x.count(8));
        Check.due("units with 10 and 126", 1, () -> x.units(10 << 8 | 126));
        Check.due("characters", 8, () -> x.count(8));
        x.read();
        x.units('i' << 24 | 'n' << 16 | 'p' << 8 | 'u');
        x.units('t' << 24 | ' ' << 16 | 'a' << 8 | '=');
        x.units('0' << 16 | ';');
        Check.due("units in order", 0, x::read);
        Check.due("a layer", 1, () -> x.count(0));
        for (int k = 0; k < 199; k++) {
            x.units(0x20202020);
        }
        x.unit(' ');
        Check.due("no room for four", 0, () -> x.units(0x20202020));
        Check.due("characters stay", 797, () -> x.count(8));
        Check.due("room for three", 1, () -> x.units(0x20200020));
        Check.due("room for none", 1, () -> x.units(0));
        Check.due("no room for one", 0, () -> x.units(0x20));
        Check.due("characters", 800, () -> x.count(8));
        Check.due("blanks alone", 0, x::read);
        Check.due("no layer", 0, () -> x.count(0));
    }

    private static void text(int want, String text) {
        Check.same("read of " + text, want, Check.read(new DeviceFind(100), text));
    }

    private static void words() {
        text(0, "");
        text(0, " \n \n");
        text(0, "input a=0;");
        text(0, "\ninput\na\n=\n0\n;\n");
        text(-1, "inputa=0;");
        text(0, "input abcdefgh = 000099;");
        text(-2, "input abcdefghi = 0;");
        text(-4, "input a = 0000099;");
        text(-4, "input a = 100;");
        text(-4, "input a = 999999;");
        text(-3, "input a0 = 0;");
        text(-5, "input a = 0a;");
        text(-4, "input a == 0;");
        text(-6, "input a = 0;;");
        text(-2, "input A = 0;");
        text(-2, "input . = 0;");
        text(-1, "Input a = 0;");
        text(-1, "~");
        text(-1, "7");
        text(-1, ";");
        text(-1, "and");
        text(0, "input input=0; make make=input and input; make and=make less input; make less=and or and;"
                + "wire input; wire and; join input and by make;");
        text(2, "input pins=0; wire pins; device pins=pins pins pins pins; device device=pins pins pins;");
        text(2, "input a=0; input b=0; wire a; device a=a pins a; device b=b pins a a a a;");
        text(0, "input ab=0; input a=0; input b=0; input ba=0; input aa=0; input aaa=0;");
        text(0, "input a=0; wire a; join a a by a; join a a by a;");
    }

    private static void wrongWords() {
        String layers = "input a=0;input b=1;";
        String wires = layers + "wire a;wire b;";
        text(0, layers);
        text(-11, layers + "x");
        text(-12, layers + "input");
        text(-12, layers + "input a=0;");
        text(-12, layers + "make b=a and b;");
        text(-12, layers + "make =a and b;");
        text(-12, layers + "make 1=a and b;");
        text(-13, layers + "make c;");
        text(-14, layers + "make c=c and b;");
        text(-14, layers + "make c=1 and b;");
        text(-15, layers + "make c=a by b;");
        text(-15, layers + "make c=a;");
        text(-15, layers + "make c=a andb;");
        text(-16, layers + "make c=a and c;");
        text(-16, layers + "make c=a less;");
        text(-17, layers + "make c=a or b and a;");
        text(-17, layers + "make c=a or b");
        text(0, layers + "make c=a or b;make d=c less c;make e=d and a;");
        text(-12, layers + "wire c;");
        text(-12, layers + "wire ;");
        text(-13, layers + "wire a b;");
        text(-15, layers + "wire a;wire a;");
        text(-15, layers + "wire a;join b a by a;");
        text(-16, layers + "wire a;join a b by a;");
        text(-18, wires + "join c a by a;");
        text(-19, wires + "join a by b;");
        text(-20, wires + "join a b a;");
        text(-21, wires + "join a b by c;");
        text(-21, wires + "join a b by;");
        text(-22, wires + "join a b by a b;");
        text(0, wires + "input c=2;join a b by c;join b b by a;");
        text(-18, wires + "device =a pins a;");
        text(-18, wires + "device 3=a pins a;");
        text(-20, wires + "device d=c pins a;");
        text(-21, wires + "device d=a a;");
        text(-22, wires + "device d=a pins;");
        text(-22, wires + "device d=a pins c;");
        text(-23, wires + "device d=a pins a=;");
        text(-23, wires + "device d=a pins a");
        text(-26, wires + "device d=a pins a b a b a;");
        text(1, wires + "device d=a pins a b a b;");
        text(-25, wires + "device d=a pins a;device d=b pins a;");
        text(-19, layers + "wire a;device d=a pins b;");
        text(1, wires + "input c=2;device d=c pins a;");
        text(-27, wires + "input c=2;device d=c pins c;");
    }

    /** Texts that end within a sentence, or in which another one begins there. */
    private static void cutTexts() {
        String[] words = ("input a = 0 ; make b = a less a ; wire a ; wire b ; join a b by b ;"
                + " device d = b pins a b a b ; input e = 1 ;").split(" ");
        StringBuilder cut = new StringBuilder();
        boolean isWithin = false;
        for (int k = 0; k < words.length; k++) {
            boolean isFirst = !isWithin;
            cut.append(words[k]).append(' ');
            isWithin = !words[k].equals(";");
            if (isWithin) {
                text(-1 - (k + 1), cut.toString());
                text(-1 - (k + (isFirst && words[k].matches("input|make|device") ? 2 : 1)), cut + "wire wire ;");
                text(-1 - (k + 1), cut + "abcdefghi");
                text(-1 - (k + 1), cut + "1234567");
                text(-1 - (k + 1), cut + "?");
            } else {
                text(k > 25 ? 1 : 0, cut.toString());
                text(-1 - (k + 1), cut + "=");
            }
        }
    }

    private static void fullTapes() {
        text(-1, ";".repeat(800));
        text(-2, "wire" + "=".repeat(796));
        String sentences = "input a=0;wire a;" + "join a a by a;".repeat(16) + "device d=a pins a;";
        text(1, sentences + " ".repeat(800 - sentences.length()));
        text(1, "\n".repeat(800 - sentences.length()) + sentences);
        text(-1, "a".repeat(800));
        text(-1, "1".repeat(800));
    }

    private static void textsOneAfterAnother() {
        DeviceFind x = new DeviceFind(1);
        String all = "input a=0;input b=0;wire a;wire b;join a b by a;device d=a pins a;device e=a pins a;";
        int[] counts = {2, 2, 1, 2};
        for (int turn = 0; turn < 4; turn++) {
            Check.same("read again", 2, Check.read(x, all));
            for (int what = 0; what < 4; what++) {
                int w = what;
                Check.due("count " + what, counts[what], () -> x.count(w));
            }
        }
        for (int turn = 0; turn < 2; turn++) {
            Check.same("a layer of an earlier text", -7, Check.read(x, "input a=0;wire b;"));
            Check.same("a layer of an earlier text", 0, Check.read(x, "input a=0;input b=0;"));
            Check.same("a wire of an earlier text", -7, Check.read(x, "input a=0;join a a by a;"));
            Check.same("a kind of an earlier text", 1, Check.read(x, "input a=0;wire a;device e=a pins a;"));
            Check.same("a kind of an earlier text", 1, Check.read(x, "input a=0;wire a;device d=a pins a;"));
        }
    }

    private static String repeated(String before, String after, int times) {
        StringBuilder all = new StringBuilder();
        for (int k = 0; k < times; k++) {
            all.append(before).append((char) ('a' + k)).append(after);
        }
        return all.toString();
    }

    private static void limits() {
        String layers = repeated("input ", "=0;", 24);
        text(0, layers);
        text(-1 - 24 * 5, layers + "input y=0;");
        text(-1 - 24 * 5, layers + "make y=a or a;");
        text(-1 - 24 * 5, layers + "input");
        text(0, layers + "wire a;");
        String eight = repeated("input ", "=0;", 9) + repeated("wire ", ";", 8);
        text(0, eight);
        text(-1 - 9 * 5 - 8 * 3, eight + "wire i;");
        text(-1 - 9 * 5 - 8 * 3, eight + "wire a;");
        String one = "input a=0;wire a;";
        String joins = "join a a by a;".repeat(16);
        text(0, one + joins);
        text(-1 - 8 - 16 * 6, one + joins + "join a a by a;");
        text(-1 - 8 - 16 * 6, one + joins + "join");
        String kinds = repeated("device ", "=a pins a;", 8);
        text(8, one + kinds);
        text(-1 - 8 - 8 * 7, one + kinds + "device i=a pins a;");
        text(-1 - 8 - 8 * 7, one + kinds + "device a=a pins a;");
        text(8, one + kinds + "join a a by a;");
    }

    private static void textStays() {
        DeviceFind x = new DeviceFind(2);
        Check.same("read", 1, Check.read(x, "input a=0;input b=1;wire a;join a a by b;device d=b pins a;"));
        int[] counts = {2, 1, 1, 1};
        for (int what = 0; what < 4; what++) {
            int w = what;
            Check.due("count " + what, counts[what], () -> x.count(w));
        }
        Check.due("run", 0, x::run);
        Check.same("wrong read", -19, Check.read(x, "input x=0;input y=0;input z=0;wire x;x"));
        for (int what = 0; what < 4; what++) {
            int w = what;
            Check.due("count " + what + " after a wrong text", counts[what], () -> x.count(w));
        }
        Check.due("the tape is empty after a wrong text", 0, () -> x.count(8));
        Check.due("what was found stays after a wrong text", -1, () -> x.bad(0));
        Check.same("another text", 0, Check.read(x, "input z=1;"));
        Check.due("in place of the text before", 1, () -> x.count(0));
        Check.due("in place of the text before", 0, () -> x.count(3));
        Check.due("a right text needs a run", STATE, () -> x.bad(0));
        Check.due("an empty text is a text", 0, x::read);
        Check.due("an empty text", 0, () -> x.count(0));
        Check.due("run of an empty text", 0, x::run);
        DeviceFind wrong = new DeviceFind(2);
        Check.same("wrong read", -1, Check.read(wrong, "!"));
        Check.due("a wrong text is not read", STATE, wrong::run);
    }
}

/** A test of its own for each boundary case of "2 THE TEXT" and of the promises 2, 3 and 4. */
public final class TextEdgesTest {
    /** Ten words: two layers. */
    private static final String LAYERS = "input a=0;input b=1;";
    /** Sixteen words: two layers that are wires. */
    private static final String WIRES = LAYERS + "wire a;wire b;";

    public static void main(String[] args) {
        tapesAndWords();
        sentences();
        limitsAndNames();
        wrongWords();
        unitPromise();
        unitsPromise();
        readPromise();
        Check.end();
    }

    private static void tapesAndWords() {
        Check.sentence("THE TAPE has up to 800 characters", TextEdgesTest::eightHundred);
        Check.sentence("characters (32 .. 126, and 10)", TextEdgesTest::characters);
        Check.sentence("as long as can be rows of small letters", TextEdgesTest::rowsOfLetters);
        Check.sentence("NAMES, 8 at most", TextEdgesTest::longNames);
        Check.sentence("as long as can be rows of digits", TextEdgesTest::rowsOfDigits);
        Check.sentence("NUMBERS, 6 at most", TextEdgesTest::longNumbers);
        Check.sentence("each of = ; alone", TextEdgesTest::signsAlone);
        Check.sentence("parted by blanks (32, 10)", TextEdgesTest::blanks);
        Check.sentence("or not", TextEdgesTest::noBlanks);
    }

    private static void sentences() {
        Check.sentence("SENTENCES, any number of each", TextEdgesTest::anyNumber);
        Check.sentence("in any order", TextEdgesTest::anyOrder);
        Check.sentence("that input (below layers)", TextEdgesTest::belowLayers);
        Check.sentence("and: squares in both", TextEdgesTest::squaresInBoth);
        Check.sentence("or: in one at least", TextEdgesTest::squaresInOne);
        Check.sentence("less: in the first one, not in the second one", TextEdgesTest::squaresInFirst);
        Check.sentence("the layer is a WIRE, from 0 on", TextEdgesTest::wiresFromZero);
        Check.sentence("a JOIN: the first two are wires", TextEdgesTest::joinsAreOfWires);
        Check.sentence("which may be one", TextEdgesTest::joinOfOneWire);
        Check.sentence("the third is any layer", TextEdgesTest::joinByAnyLayer);
        Check.sentence("a KIND of devices, from 0 on", TextEdgesTest::kindsFromZero);
        Check.sentence("with a name of its own", TextEdgesTest::kindsHaveNames);
        Check.sentence("the layer of its places", TextEdgesTest::layerOfPlaces);
        Check.sentence("one to four wires", TextEdgesTest::oneToFourWires);
        Check.sentence("wires, of which its PINS are", TextEdgesTest::pinsAreOfWires);
    }

    private static void limitsAndNames() {
        Check.sentence("24 layers at most", TextEdgesTest::mostLayers);
        Check.sentence("8 wires at most", TextEdgesTest::mostWires);
        Check.sentence("16 joins at most", TextEdgesTest::mostJoins);
        Check.sentence("8 kinds at most", TextEdgesTest::mostKinds);
        Check.sentence("A layer's name is told once (by input or make)", TextEdgesTest::layersOnce);
        Check.sentence("before it is used", TextEdgesTest::layersBeforeUse);
        Check.sentence("a wire is told once", TextEdgesTest::wiresOnce);
        Check.sentence("and before it is joined", TextEdgesTest::wiresBeforeJoins);
        Check.sentence("or has pins", TextEdgesTest::wiresBeforePins);
        Check.sentence("names of kinds are told once each", TextEdgesTest::kindsOnce);
        Check.sentence("and may be those of layers", TextEdgesTest::kindsNamedAsLayers);
        Check.sentence("A name may be any, also one of the words above", TextEdgesTest::namesMayBeAny);
    }

    private static void wrongWords() {
        Check.sentence("THE WRONG WORD is the first one", TextEdgesTest::firstOfSeveral);
        Check.sentence("(from 0)", TextEdgesTest::wordsFromZero);
        Check.sentence("that cannot stand where it stands", TextEdgesTest::wordsOutOfPlace);
        Check.sentence("also a row that is too long", TextEdgesTest::rowsTooLong);
        Check.sentence("another character", TextEdgesTest::otherCharacters);
        Check.sentence("a name that is not told yet", TextEdgesTest::notToldYet);
        Check.sentence("or told already", TextEdgesTest::toldAlready);
        Check.sentence("the sentence's first word when there are as many already", TextEdgesTest::asManyAlready);
        Check.sentence("if the text ends within a sentence it is the number of words", TextEdgesTest::endsWithin);
    }

    private static void unitPromise() {
        Check.sentence("A character more on the tape", TextEdgesTest::oneMore);
        Check.sentence("unit: whether it was one", TextEdgesTest::unitIsCharacter);
        Check.sentence("unit: and there was room", TextEdgesTest::unitHasRoom);
    }

    private static void unitsPromise() {
        Check.sentence("Four characters more, the highest byte first", TextEdgesTest::highestFirst);
        Check.sentence("0s are left out", TextEdgesTest::zerosLeftOut);
        Check.sentence("units: whether all were such", TextEdgesTest::unitsAreCharacters);
        Check.sentence("units: and there was room for them", TextEdgesTest::unitsHaveRoom);
        Check.sentence("else none comes", TextEdgesTest::noneComes);
    }

    private static void readPromise() {
        Check.sentence("The tape (which is empty then) is read", TextEdgesTest::tapeIsEmptyThen);
        Check.sentence("in place of the text before", TextEdgesTest::inPlaceOfTextBefore);
        Check.sentence("how many kinds there are", TextEdgesTest::howManyKinds);
        Check.sentence("-1 less the wrong word", TextEdgesTest::lessTheWrongWord);
        Check.sentence("then all stays", TextEdgesTest::allStays);
    }

    private static void text(int want, String text) {
        Check.same("read of " + text, want, Check.read(new DeviceFind(100), text));
    }

    private static void wrong(int word, String text) {
        text(-1 - word, text);
    }

    /** Sentences, one for each of the letters a, b .. */
    private static String forLetters(int many, String before, String after) {
        StringBuilder all = new StringBuilder();
        for (int k = 0; k < many; k++) {
            all.append(before).append((char) ('a' + k)).append(after);
        }
        return all.toString();
    }

    private static void eightHundred() {
        DeviceFind x = new DeviceFind(1);
        String text = "input a=0;wire a;device d=a pins a;";
        Check.tape(x, "\n".repeat(800 - text.length()) + text);
        Check.due("characters", 800, () -> x.count(8));
        Check.due("the 801st", 0, () -> x.unit(' '));
        Check.due("characters", 800, () -> x.count(8));
        Check.due("all 800 are read", 1, x::read);
        text(0, " ".repeat(800));
        wrong(0, ";".repeat(800));
    }

    private static void characters() {
        DeviceFind x = new DeviceFind(1);
        int there = 0;
        for (int u = -2; u < 260; u++) {
            int character = u;
            boolean is = u == 10 || u >= 32 && u <= 126;
            Check.due("unit(" + u + ")", is ? 1 : 0, () -> x.unit(character));
            there += is ? 1 : 0;
        }
        Check.same("characters", 96, there);
        Check.due("characters", 96, () -> x.count(8));
    }

    private static void rowsOfLetters() {
        text(0, "input az=0;input za=0;input a=0;input z=0;");
        wrong(0, "inputa=0;");
        wrong(2, "input a b=0;");
        wrong(6, "input az=0;wire a z;");
        wrong(6, "input az=0;wire a\nz;");
    }

    private static void longNames() {
        text(0, "input abcdefgh=0;wire abcdefgh;");
        text(1, "input a=0;wire a;device zzzzzzzz=a pins a;");
        wrong(1, "input abcdefghi=0;");
        wrong(9, "input a=0;wire a;device zzzzzzzzz=a pins a;");
        text(0, "input abcdefgh=0;input abcdefgi=0;input bbcdefgh=0;");
        wrong(6, "input abcdefgh=0;wire abcdefgha;");
    }

    private static void rowsOfDigits() {
        text(0, "input a=12;");
        text(0, "input a=09;input b=90;");
        wrong(4, "input a=1 2;");
        wrong(4, "input a=1\n2;");
    }

    private static void longNumbers() {
        text(0, "input a=000099;");
        wrong(3, "input a=0000099;");
        wrong(3, "input a=0000000;");
        wrong(3, "input a=999999;");
        wrong(3, "input a=4294967296;");
        wrong(3, "input a=18446744073709551616;");
    }

    private static void signsAlone() {
        wrong(3, "input a==0;");
        wrong(5, "input a=0;;");
        wrong(4, "input a=0=;");
        wrong(3, "input a=;");
        wrong(2, "input a;=0");
        text(0, "input a=0;input b=0;");
    }

    private static void blanks() {
        text(0, "\n\n  input\na \n=\n 0  ;\n");
        text(0, " ");
        text(0, "\n");
        wrong(0, "in put a=0;");
    }

    private static void noBlanks() {
        text(0, "input a=0;make b=a or a;wire b;");
        wrong(2, "input a0=0;");
        wrong(1, "input 0a=0;");
        wrong(4, "input a=0a;");
        wrong(5, "input a=0;0wire a;");
    }

    private static void counts(DeviceFind x, int... want) {
        for (int what = 0; what < want.length; what++) {
            int w = what;
            Check.due("count " + what, want[what], () -> x.count(w));
        }
    }

    private static void anyNumber() {
        counts(Check.reading(1, 0, ""), 0, 0, 0, 0);
        counts(Check.reading(1, 0, "input a=0;"), 1, 0, 0, 0);
        counts(Check.reading(1, 0, "input a=0;make b=a and a;"), 2, 0, 0, 0);
        counts(Check.reading(1, 0, "input a=0;wire a;"), 1, 1, 0, 0);
        counts(Check.reading(1, 0, "input a=0;wire a;join a a by a;"), 1, 1, 1, 0);
        counts(Check.reading(1, 1, "input a=0;wire a;device d=a pins a;"), 1, 1, 0, 1);
        counts(Check.reading(1, 2, "input a=0;input b=0;input c=0;wire a;wire b;join a a by a;join a b by b;"
                + "join b b by a;device d=a pins a;device e=a pins a;"), 3, 2, 3, 2);
        counts(Check.reading(1, 0, ""), 0, 0, 0, 0, 0, 0);
        Check.due("run of a text without sentences", 0, () -> Check.reading(1, 0, "").run());
    }

    private static void anyOrder() {
        text(1, "input a=0;wire a;device d=a pins a;join a a by a;input b=1;wire b;make c=a or b;wire c;input d=2;");
        text(2, "input a=0;wire a;device d=a pins a;make b=a and a;wire b;join a b by b;device e=b pins b;");
        text(0, "input a=0;make b=a or a;input c=0;make d=c less b;");
    }

    private static void belowLayers() {
        Check.same("the last input", 0, Check.read(new DeviceFind(7), "input a=6;"));
        Check.same("one beyond", -4, Check.read(new DeviceFind(7), "input a=7;"));
        Check.same("the first input", 0, Check.read(new DeviceFind(1), "input a=0;"));
        Check.same("the second one of one", -4, Check.read(new DeviceFind(1), "input a=1;"));
        Check.same("the greatest", 0, Check.read(new DeviceFind(65536), "input a=065535;"));
        Check.same("beyond the greatest", -4, Check.read(new DeviceFind(65536), "input a=065536;"));
        DeviceFind x = new DeviceFind(65536);
        Check.square(x, 65535, 1, 0);
        Check.same("read", 0, Check.read(x, "input a=65535;wire a;input b=0;wire b;input c=255;wire c;"));
        x.run();
        Check.same("its squares", ".#. ...", Check.picture(x, 0, 3, 2));
        Check.same("none of another one", "... ...", Check.picture(x, 1, 3, 2));
        Check.same("none of another one", "... ...", Check.picture(x, 2, 3, 2));
    }

    /** The squares of a layer that is made of a (squares 0 and 1), b (1 and 2) and e (none). */
    private static void made(String want, String make) {
        DeviceFind x = Check.reading(3, 0, "input a=0;input b=1;input e=2;" + make + "wire c;");
        Check.rectangle(x, 0, 0, 0, 2, 1);
        Check.rectangle(x, 1, 1, 0, 2, 1);
        x.run();
        Check.same(make, want, Check.picture(x, 0, 4, 2));
    }

    private static void squaresInBoth() {
        made(".#.. ....", "make c=a and b;");
        made(".#.. ....", "make c=b and a;");
        made("##.. ....", "make c=a and a;");
        made(".... ....", "make c=a and e;");
    }

    private static void squaresInOne() {
        made("###. ....", "make c=a or b;");
        made("##.. ....", "make c=a or a;");
        made("##.. ....", "make c=e or a;");
        made(".... ....", "make c=e or e;");
    }

    private static void squaresInFirst() {
        made("#... ....", "make c=a less b;");
        made("..#. ....", "make c=b less a;");
        made(".... ....", "make c=a less a;");
        made("##.. ....", "make c=a less e;");
        made(".... ....", "make c=e less a;");
        made("..#. ....", "make d=a or b;make c=d less a;");
    }

    private static void wiresFromZero() {
        DeviceFind x = Check.reading(3, 0, "input a=0;input b=1;wire b;input c=2;wire c;wire a;");
        Check.square(x, 0, 0, 0);
        Check.square(x, 1, 1, 0);
        Check.square(x, 2, 2, 0);
        x.run();
        Check.same("wire 0", ".#. ...", Check.picture(x, 0, 3, 2));
        Check.same("wire 1", "..# ...", Check.picture(x, 1, 3, 2));
        Check.same("wire 2", "#.. ...", Check.picture(x, 2, 3, 2));
        Check.due("wire 3", "throws.IndexOutOfBoundsException", () -> x.net(3, 0, 0));
    }

    private static void joinsAreOfWires() {
        text(0, WIRES + "join a b by a;");
        wrong(14, LAYERS + "wire a;join b a by a;");
        wrong(15, LAYERS + "wire a;join a b by a;");
        wrong(18, WIRES + "join a by b by a;");
        wrong(19, WIRES + "join a b a;");
    }

    private static void joinOfOneWire() {
        text(0, LAYERS + "wire a;join a a by b;");
        DeviceFind x = Check.reading(2, 0, LAYERS + "wire a;join a a by b;");
        Check.square(x, 0, 0, 0);
        Check.square(x, 0, 2, 0);
        Check.rectangle(x, 1, 0, 0, 3, 1);
        x.run();
        Check.due("two shapes of one wire", 1, () -> x.count(5));
    }

    private static void joinByAnyLayer() {
        text(0, LAYERS + "make c=a or b;wire a;join a a by a;join a a by b;join a a by c;");
        wrong(17, LAYERS + "wire a;join a a by c;");
        wrong(17, LAYERS + "wire a;join a a by;");
    }

    private static void kindsFromZero() {
        DeviceFind x = Check.reading(2, 2, WIRES + "device z=b pins a;device y=a pins a;");
        Check.square(x, 0, 0, 0);
        Check.square(x, 1, 9, 0);
        x.run();
        Check.due("the first kind told", 0, () -> x.device(0, 0));
        Check.due("is of layer b", 9, () -> x.device(0, 3));
        Check.due("the second kind told", 1, () -> x.device(1, 0));
        Check.due("is of layer a", 0, () -> x.device(1, 3));
    }

    private static void kindsHaveNames() {
        wrong(17, WIRES + "device =a pins a;");
        wrong(17, WIRES + "device 1=a pins a;");
        wrong(24, WIRES + "device d=a pins a;device d=b pins b;");
        text(2, WIRES + "device d=a pins a;device dd=a pins a;");
    }

    private static void layerOfPlaces() {
        text(1, LAYERS + "wire a;device d=b pins a;");
        text(1, LAYERS + "make c=a less b;wire a;device d=c pins a;");
        wrong(19, WIRES + "device d=c pins a;");
        wrong(19, WIRES + "device d=0 pins a;");
        wrong(20, WIRES + "device d=a b pins a;");
    }

    private static void oneToFourWires() {
        wrong(21, WIRES + "device d=a pins;");
        text(1, WIRES + "device d=a pins a;");
        text(1, WIRES + "device d=a pins a b;");
        text(1, WIRES + "device d=a pins a b b;");
        text(1, WIRES + "device d=a pins a a a a;");
        wrong(25, WIRES + "device d=a pins a a a a a;");
        wrong(25, WIRES + "device d=a pins a a a a b;");
        wrong(25, WIRES + "device d=a pins a a a a");
    }

    private static void pinsAreOfWires() {
        wrong(21, WIRES + "device d=a pins c;");
        wrong(26, WIRES + "input c=2;device d=a pins c;");
        wrong(18, LAYERS + "wire a;device d=a pins b;");
        wrong(19, LAYERS + "wire a;device d=a pins a b;");
        wrong(22, WIRES + "device d=a pins a 1;");
        wrong(22, WIRES + "device d=a pins a=;");
    }

    private static void mostLayers() {
        String layers = forLetters(12, "input ", "=0;") + "make m=a or b;make n=a or b;make o=a or b;make p=a or b;"
                + "make q=a or b;make r=a or b;make s=a or b;make t=a or b;make u=a or b;make v=a or b;make w=a or b;";
        int words = 12 * 5 + 11 * 7;
        counts(Check.reading(1, 0, layers + "input x=0;"), 24);
        counts(Check.reading(1, 0, layers + "make x=a or b;"), 24);
        wrong(words + 5, layers + "input x=0;input y=0;");
        wrong(words + 5, layers + "input x=0;make y=a or b;");
        text(0, layers + "input x=0;wire x;join x x by x;");
        DeviceFind x = Check.reading(1, 0, layers + "make x=a and w;wire x;");
        Check.square(x, 0, 2, 0);
        x.run();
        Check.same("the 24th layer", "..#. ....", Check.picture(x, 0, 4, 2));
    }

    private static void mostWires() {
        String layers = forLetters(9, "input ", "=0;");
        String wires = forLetters(8, "wire ", ";");
        counts(Check.reading(1, 0, layers + wires), 9, 8);
        wrong(9 * 5 + 8 * 3, layers + wires + "wire i;");
        text(0, layers + wires + "join h h by h;");
        DeviceFind x = Check.reading(1, 0, layers + wires);
        Check.square(x, 0, 2, 0);
        x.run();
        Check.due("the 8th wire", 7, () -> x.net(7, 2, 0));
    }

    private static void mostJoins() {
        String joins = "input a=0;wire a;" + "join a a by a;".repeat(15);
        counts(Check.reading(1, 0, joins), 1, 1, 15);
        counts(Check.reading(1, 0, joins + "join a a by a;"), 1, 1, 16);
        wrong(8 + 16 * 6, joins + "join a a by a;join a a by a;");
        text(1, joins + "join a a by a;device d=a pins a;");
        DeviceFind x = Check.reading(2, 0, "input a=0;wire a;input b=1;" + "join a a by a;".repeat(15) + "join a a by b;");
        Check.square(x, 0, 0, 0);
        Check.square(x, 0, 2, 0);
        Check.rectangle(x, 1, 0, 0, 3, 1);
        x.run();
        Check.due("the 16th join joins", 1, () -> x.count(5));
    }

    private static void mostKinds() {
        String kinds = "input a=0;wire a;" + forLetters(7, "device ", "=a pins a;");
        counts(Check.reading(1, 7, kinds), 1, 1, 0, 7);
        counts(Check.reading(1, 8, kinds + "device h=a pins a a a a;"), 1, 1, 0, 8);
        wrong(8 + 7 * 7 + 7, kinds + "device h=a pins a;device i=a pins a;");
        text(8, kinds + "device h=a pins a;join a a by a;");
        DeviceFind x = Check.reading(1, 8, kinds + "device h=a pins a a a a;");
        Check.square(x, 0, 2, 0);
        Check.due("run", 8, x::run);
        Check.due("the 8th kind", 7, () -> x.device(7, 0));
        Check.due("its fourth pin", -1, () -> x.pin(7, 3));
    }

    private static void layersOnce() {
        wrong(11, LAYERS + "input a=1;");
        wrong(11, LAYERS + "input b=1;");
        wrong(11, LAYERS + "make a=a or b;");
        wrong(18, LAYERS + "make c=a or b;make c=a and b;");
        wrong(18, LAYERS + "make c=a or b;input c=0;");
        text(0, LAYERS + "make c=a or b;");
    }

    private static void layersBeforeUse() {
        wrong(1, "wire a;input a=0;");
        wrong(3, "make c=a or b;input a=0;input b=0;");
        wrong(8, "input a=0;make c=c or a;");
        wrong(10, "input a=0;make c=a or c;");
        wrong(10, "input a=0;make c=a or b;input b=0;");
        wrong(12, "input a=0;wire a;join a a by b;input b=0;");
        wrong(11, "input a=0;wire a;device d=b pins a;input b=0;");
        text(0, "input a=0;make c=a or a;make d=c or a;");
    }

    private static void wiresOnce() {
        wrong(14, LAYERS + "wire a;wire a;");
        wrong(17, LAYERS + "wire a;wire b;wire a;");
        text(0, LAYERS + "make c=a or a;wire a;wire c;");
    }

    private static void wiresBeforeJoins() {
        wrong(11, LAYERS + "join a a by a;wire a;");
        wrong(15, LAYERS + "wire a;join a b by a;wire b;");
        text(0, LAYERS + "wire a;join a a by a;wire b;join a b by b;");
    }

    private static void wiresBeforePins() {
        wrong(15, LAYERS + "device d=a pins a;wire a;");
        wrong(19, LAYERS + "wire a;device d=a pins a b;wire b;");
        text(2, LAYERS + "wire a;device d=a pins a;wire b;device e=a pins a b;");
    }

    private static void kindsOnce() {
        wrong(24, WIRES + "device d=a pins a;device d=b pins b;");
        wrong(31, WIRES + "device d=a pins a;device e=a pins a;device d=a pins a;");
        text(3, WIRES + "device d=a pins a;device e=a pins a;device f=a pins a;");
    }

    private static void kindsNamedAsLayers() {
        text(2, WIRES + "device a=a pins a;device b=a pins a;");
        text(1, WIRES + "device c=a pins a;input c=0;");
        wrong(24, WIRES + "device c=a pins a;wire c;");
    }

    private static void namesMayBeAny() {
        String[] words = {"input", "make", "wire", "join", "device", "and", "or", "less", "by", "pins"};
        for (String n : words) {
            text(1, "input " + n + "=0;make x=" + n + " and " + n + ";make y=" + n + " or " + n + ";make z=" + n
                    + " less " + n + ";wire " + n + ";join " + n + " " + n + " by " + n + ";device " + n + "=" + n
                    + " pins " + n + " " + n + ";");
            text(0, "input x=0;make " + n + "=x and x;");
        }
        text(0, "input x=0;input n=0;input squares=0;input layer=0;");
    }

    private static void firstOfSeveral() {
        wrong(1, "input 1=a;wire;?");
        wrong(5, "input a=0;?input a=0;abcdefghi;");
        wrong(3, "input a=9999999 b");
        wrong(0, "? input a=0;");
        wrong(8, "input a=0;make b=c or d;");
    }

    private static void wordsFromZero() {
        wrong(0, "x");
        wrong(0, "=");
        wrong(0, "0");
        wrong(1, "input 7");
        wrong(1, "wire x");
    }

    private static void wordsOutOfPlace() {
        wrong(0, "and a=0;");
        wrong(0, "inputs a=0;");
        wrong(0, "inpu a=0;");
        wrong(1, "input =0;");
        wrong(2, "input a 0;");
        wrong(3, "input a=b;");
        wrong(4, "input a=0 wire a;");
        wrong(12, LAYERS + "make c a or b;");
        wrong(14, LAYERS + "make c=a xor b;");
        wrong(14, LAYERS + "make c=a by b;");
        wrong(16, LAYERS + "make c=a or b or a;");
        wrong(12, LAYERS + "wire a=0;");
        wrong(12, LAYERS + "wire a b;");
        wrong(19, WIRES + "join a b and a;");
        wrong(21, WIRES + "join a b by a b;");
        wrong(18, WIRES + "device d a pins a;");
        wrong(20, WIRES + "device d=a by a;");
        wrong(20, WIRES + "device d=a pin a;");
    }

    /** A right text, each of whose words gives way to another one that can stand nowhere. */
    private static void eachWordAs(String other) {
        String[] words = ("input a = 0 ; make b = a or a ; wire a ; join a a by b ; device d = b pins a a ;").split(" ");
        StringBuilder before = new StringBuilder();
        for (int k = 0; k < words.length; k++) {
            StringBuilder after = new StringBuilder();
            for (int j = k + 1; j < words.length; j++) {
                after.append(' ').append(words[j]);
            }
            wrong(k, before + other + after);
            wrong(k, before + other);
            before.append(words[k]).append(' ');
        }
        text(1, before.toString());
        wrong(words.length, before + other);
    }

    private static void rowsTooLong() {
        eachWordAs("abcdefghi");
        eachWordAs("aaaaaaaaaaaaaaaaaaaaaaaaaa");
        eachWordAs("0000000");
        wrong(0, "a".repeat(800));
        wrong(0, "0".repeat(800));
        wrong(3, "input a=" + "0".repeat(700) + ";");
        wrong(1, "input " + "a".repeat(700) + "=0;");
    }

    private static void otherCharacters() {
        for (char c = 32; c < 127; c++) {
            boolean isOther = c != ' ' && c != '=' && c != ';' && !(c >= 'a' && c <= 'z') && !(c >= '0' && c <= '9');
            if (isOther) {
                wrong(0, c + "input a=0;");
                wrong(5, "input a=0;" + c);
                wrong(1, "input " + c + "=0;");
                wrong(2, "input a" + c + "=0;");
                wrong(4, "input a=0" + c + "0;");
            }
        }
        eachWordAs("A");
        eachWordAs("-");
    }

    private static void notToldYet() {
        wrong(6, "input a=0;wire b;");
        wrong(8, "input a=0;make c=b or a;");
        wrong(10, "input a=0;make c=a or b;");
        wrong(9, "input a=0;wire a;join b a by a;");
        wrong(10, "input a=0;wire a;join a b by a;");
        wrong(12, "input a=0;wire a;join a a by b;");
        wrong(11, "input a=0;wire a;device d=b pins a;");
        wrong(13, "input a=0;wire a;device d=a pins b;");
        wrong(14, "input a=0;wire a;device d=a pins a b;");
        wrong(6, "input aa=0;wire a;");
        wrong(6, "input a=0;wire aa;");
    }

    private static void toldAlready() {
        wrong(6, "input a=0;input a=0;");
        wrong(6, "input a=0;make a=a or a;");
        wrong(9, "input a=0;wire a;wire a;");
        wrong(16, "input a=0;wire a;device d=a pins a;device d=a pins a;");
    }

    private static void asManyAlready() {
        String layers = forLetters(24, "input ", "=0;");
        wrong(120, layers + "input a=0;");
        wrong(120, layers + "make");
        wrong(120, layers + "input ?");
        String wires = forLetters(8, "input ", "=0;") + forLetters(8, "wire ", ";");
        wrong(64, wires + "wire a;");
        wrong(64, wires + "wire z;");
        wrong(64, wires + "wire");
        String joins = "input a=0;wire a;" + "join a a by a;".repeat(16);
        wrong(104, joins + "join b b by b;");
        wrong(104, joins + "join");
        String kinds = "input a=0;wire a;" + forLetters(8, "device ", "=a pins a;");
        wrong(64, kinds + "device a=a pins a;");
        wrong(64, kinds + "device");
        wrong(65, kinds + "wire a;");
    }

    private static void endsWithin() {
        String[] words = ("input a = 0 ; make b = a or a ; wire a ; join a a by b ; device d = b pins a a a a ;").split(" ");
        StringBuilder cut = new StringBuilder();
        for (int k = 0; k < words.length; k++) {
            cut.append(words[k]);
            boolean isWhole = words[k].equals(";");
            if (!isWhole) {
                wrong(k + 1, cut.toString());
                wrong(k + 1, cut + " \n ");
            } else {
                text(k == words.length - 1 ? 1 : 0, cut.toString());
            }
            cut.append(' ');
        }
    }

    private static void oneMore() {
        DeviceFind x = new DeviceFind(1);
        for (char c : "input a=0;".toCharArray()) {
            x.unit(c);
        }
        Check.due("characters", 10, () -> x.count(8));
        Check.due("read", 0, x::read);
        Check.due("layers", 1, () -> x.count(0));
    }

    private static void unitIsCharacter() {
        DeviceFind x = new DeviceFind(1);
        int[] none = {Integer.MIN_VALUE, -1, 0, 9, 11, 13, 31, 127, 128, 255, 256 + 65, 65536 + 65, 1 << 24 | 65,
            Integer.MAX_VALUE};
        for (int u : none) {
            Check.due("unit(" + u + ")", 0, () -> x.unit(u));
            Check.due("characters", 0, () -> x.count(8));
        }
        for (int u : new int[] {10, 32, 126}) {
            Check.due("unit(" + u + ")", 1, () -> x.unit(u));
        }
        Check.due("characters", 3, () -> x.count(8));
    }

    private static void unitHasRoom() {
        DeviceFind x = new DeviceFind(1);
        Check.tape(x, " ".repeat(799));
        Check.due("the 800th", 1, () -> x.unit('x'));
        Check.due("the 801st", 0, () -> x.unit('y'));
        Check.due("characters", 800, () -> x.count(8));
        Check.due("the 800th is the last one", -1, x::read);
        Check.due("room again", 1, () -> x.unit('z'));
    }

    private static void highestFirst() {
        DeviceFind x = new DeviceFind(1);
        x.units('i' << 24 | 'n' << 16 | 'p' << 8 | 'u');
        x.units('t' << 24 | ' ' << 16 | 'a' << 8 | '=');
        x.units('0' << 24 | ';' << 16 | ' ' << 8 | ' ');
        Check.due("characters", 12, () -> x.count(8));
        Check.due("read", 0, x::read);
        Check.due("layers", 1, () -> x.count(0));
    }

    private static void zerosLeftOut() {
        DeviceFind x = new DeviceFind(1);
        x.units('i' << 24);
        x.units('n' << 16);
        x.units('p' << 8);
        x.units('u');
        x.units('t' << 24 | ' ');
        x.units('a' << 16 | '=' << 8);
        x.units('0' << 24 | ';' << 8);
        Check.due("units(0)", 1, () -> x.units(0));
        Check.due("characters", 10, () -> x.count(8));
        Check.due("read", 0, x::read);
        Check.due("layers", 1, () -> x.count(0));
    }

    private static void unitsAreCharacters() {
        DeviceFind x = new DeviceFind(1);
        for (int bad : new int[] {1, 9, 11, 31, 127, 128, 255}) {
            for (int shift = 0; shift < 32; shift += 8) {
                int four = 0x20202020 & ~(255 << shift) | bad << shift;
                int alone = bad << shift;
                Check.due("units(" + four + ")", 0, () -> x.units(four));
                Check.due("units(" + alone + ")", 0, () -> x.units(alone));
            }
        }
        Check.due("units(-1)", 0, () -> x.units(-1));
        Check.due("characters", 0, () -> x.count(8));
        Check.due("units of 10, 32, 126 and 0", 1, () -> x.units(10 << 24 | 32 << 16 | 126 << 8));
        Check.due("characters", 3, () -> x.count(8));
    }

    private static void unitsHaveRoom() {
        for (int room = 0; room <= 4; room++) {
            int left = room;
            for (int more = 0; more <= 4; more++) {
                DeviceFind x = new DeviceFind(1);
                Check.tape(x, " ".repeat(800 - left));
                int four = more == 0 ? 0 : 0x20202020 >>> 32 - 8 * more;
                int there = more <= left ? 800 - left + more : 800 - left;
                Check.due(more + " where room is for " + left, more <= left ? 1 : 0, () -> x.units(four));
                Check.due("characters", there, () -> x.count(8));
            }
        }
    }

    private static void noneComes() {
        DeviceFind x = new DeviceFind(1);
        Check.tape(x, "input a=0;");
        Check.due("three and one that is none", 0, () -> x.units('w' << 24 | 'i' << 16 | 'r' << 8 | 7));
        Check.due("characters", 10, () -> x.count(8));
        Check.due("read", 0, x::read);
        Check.tape(x, " ".repeat(798));
        Check.due("two too many", 0, () -> x.units('w' << 24 | 'i' << 16 | 'r' << 8 | 'e'));
        Check.due("characters", 798, () -> x.count(8));
        Check.due("read", 0, x::read);
    }

    private static void tapeIsEmptyThen() {
        DeviceFind x = new DeviceFind(1);
        Check.same("a right text", 0, Check.read(x, "input a=0;"));
        Check.due("characters after a right text", 0, () -> x.count(8));
        Check.same("a wrong text", -2, Check.read(x, "input ?"));
        Check.due("characters after a wrong text", 0, () -> x.count(8));
        Check.same("a text that ends within a sentence", -3, Check.read(x, "input a"));
        Check.due("characters after it", 0, () -> x.count(8));
        Check.same("the next text begins anew", 0, Check.read(x, "input b=0;"));
        Check.due("an empty tape is read", 0, x::read);
        Check.due("layers", 0, () -> x.count(0));
    }

    private static void inPlaceOfTextBefore() {
        DeviceFind x = new DeviceFind(2);
        String all = WIRES + "join a b by a;device d=a pins a;device e=a pins b;";
        for (int turn = 0; turn < 3; turn++) {
            Check.same("read", 2, Check.read(x, all));
            counts(x, 2, 2, 1, 2);
        }
        Check.same("read", 0, Check.read(x, "input c=0;"));
        counts(x, 1, 0, 0, 0);
        for (int turn = 0; turn < 2; turn++) {
            Check.same("a layer of the text before", -2, Check.read(x, "wire c;"));
        }
        Check.same("its name is free", 0, Check.read(x, "input c=0;"));
        Check.same("a wire of the text before", 2, Check.read(x, all));
        Check.same("a wire of the text before", -7, Check.read(x, "input a=0;join a a by a;"));
        Check.same("the name of a kind", 1, Check.read(x, "input a=0;wire a;device d=a pins a;"));
        x.read();
        counts(x, 0, 0, 0, 0);
        Check.due("run", 0, x::run);
    }

    private static void howManyKinds() {
        text(0, "");
        text(0, WIRES);
        text(1, WIRES + "device d=a pins a;");
        text(2, WIRES + "device d=a pins a;device e=a pins a;");
        text(8, "input a=0;wire a;" + forLetters(8, "device ", "=a pins a;"));
    }

    private static void lessTheWrongWord() {
        text(-1, "?");
        text(-2, "input");
        text(-2, "input ?");
        text(-6, "input a=0;?");
        String most = forLetters(24, "input ", "=0;") + forLetters(8, "wire ", ";") + "join a h by x;".repeat(16)
                + forLetters(8, "device ", "=x pins a b c h;");
        text(8, most);
        for (String first : new String[] {"input", "make", "wire", "join", "device", "by", "0", ";", "=", "!"}) {
            text(-1 - (24 * 5 + 8 * 3 + 16 * 6 + 8 * 10), most + first);
        }
    }

    private static void allStays() {
        DeviceFind x = Check.reading(2, 1, WIRES + "join a b by b;device d=b pins a;");
        Check.square(x, 0, 0, 0);
        Check.square(x, 1, 1, 0);
        x.text(0, 0, 0, 7);
        x.run();
        String[] texts = {"?", "input", "input z=0;wire z;device y=z pins z", "input a=0;input a=0;", "wire a;"};
        for (String wrong : texts) {
            Check.same("a wrong text is read", true, Check.read(x, wrong) < 0);
            counts(x, 2, 2, 1, 1, 1, 2, 2, 1, 0);
            Check.due("what was found", 0, () -> x.pin(0, 0));
            Check.due("what was found", 7, () -> x.named(0));
            Check.due("what was found", 1, () -> x.net(1, 1, 0));
        }
        x.text(0, 0, 0, 3);
        Check.due("the text before is found by", 1, x::run);
        Check.due("its name", 3, () -> x.named(0));
        DeviceFind none = new DeviceFind(1);
        Check.same("a wrong text", -1, Check.read(none, "?"));
        Check.due("no text was read", "throws.IllegalStateException", none::run);
        counts(none, 0, 0, 0, 0, 0, 0, 0, 0, 0);
    }
}

/** Each promise of the document by hand-reckoned answers: ordinary inputs, edges, wrong inputs. */
public final class PromisesTest {
    private static final int NONE = -1;
    private static final int UNKNOWN = -101;
    private static final int OUTSIDE = -102;
    private static final int STATE = -103;
    private static final int FULL = -104;
    private static final int MIN = Integer.MIN_VALUE;
    private static final int MAX = Integer.MAX_VALUE;

    private static int wrong = 0;

    private static void due(String what, long got, long want) {
        if (got != want) {
            wrong++;
            System.out.println(what + " answered " + got + ", due is " + want);
        }
    }

    private static void write(BlobCorners x, String text) {
        for (int i = 0; i < text.length(); i++) {
            due("letter of " + text, x.letter(text.charAt(i)), x.count(8));
        }
    }

    private static BlobCorners read(String text) {
        BlobCorners x = new BlobCorners();
        write(x, text);
        int dots = text.replace("/", "").replace(".", "").length();
        due("blob of " + text, x.blob(), dots);
        return x;
    }

    /** The state as digest() tells it must be the same behind calls that are refused. */
    private static void same(String what, BlobCorners x, long before) {
        due("digest behind refused " + what, x.digest(), before);
    }

    public static void main(String[] args) {
        constants();
        newObject();
        letterAndBlank();
        fault();
        blob();
        dotKinds();
        as();
        outlineOrder();
        outlineAnswers();
        points();
        joinedAndPenalty();
        cornersOfPolygons();
        put();
        take();
        turnAndMirror();
        racks();
        racksAreEmptied();
        weight();
        seeAndForget();
        sortsAndAsk();
        drawn();
        imageAndRestore();
        counts();
        digest();
        System.out.println(wrong == 0 ? "all promises hold" : wrong + " answers are not as due");
        if (wrong != 0) {
            System.exit(1);
        }
    }

    private static void constants() {
        due("NONE", BlobCorners.NONE, NONE);
        due("UNKNOWN", BlobCorners.UNKNOWN, UNKNOWN);
        due("OUTSIDE", BlobCorners.OUTSIDE, OUTSIDE);
        due("STATE", BlobCorners.STATE, STATE);
        due("FULL", BlobCorners.FULL, FULL);
    }

    private static void newObject() {
        BlobCorners x = new BlobCorners();
        for (int what = 0; what <= 10; what++) {
            due("new count " + what, x.count(what), 0);
        }
        long h = 1439;
        for (int i = 0; i < 15; i++) {
            h = 31 * h - 1;
        }
        for (int i = 0; i < 11; i++) {
            h = 31 * h;
        }
        due("new digest", x.digest(), h);
        due("new dot", x.dot(0, 0), UNKNOWN);
        due("new as", x.as(0, 0), UNKNOWN);
        due("new outline", x.outline(0, 0), UNKNOWN);
        due("new point", x.point(0, 0, 0), UNKNOWN);
        due("new joined", x.joined(0, 0, 1), UNKNOWN);
        due("new penalty", x.penalty(0, 0, 1), UNKNOWN);
        due("new corner", x.corner(0, 0), UNKNOWN);
        due("new put", x.put(0, 0), UNKNOWN);
        due("new put, kind wrong too", x.put(0, 9), UNKNOWN);
        due("new take", x.take(0), UNKNOWN);
        due("new turn", x.turn(), STATE);
        due("new mirror", x.mirror(), STATE);
        due("new rack", x.rack(0, 0), UNKNOWN);
        due("new racked", x.racked(0, 0), NONE);
        due("new weight", x.weight(), STATE);
        due("new see", x.see(0, 0, true), UNKNOWN);
        due("new forget", x.forget(), 0);
        due("new image", x.image(), STATE);
        due("new restore", x.restore(), STATE);
        due("new blank", x.blank(), 0);
        due("new fault", x.fault(), 0);
        due("new blob", x.blob(), STATE);
        due("new drawn", x.drawn(3, 1071, 0), 25);
        same("calls of a new object", x, h);
    }

    private static void letterAndBlank() {
        BlobCorners x = new BlobCorners();
        for (int code : new int[] {0, 127, -1, MIN, MAX}) {
            due("letter " + code, x.letter(code), OUTSIDE);
        }
        due("letter 1", x.letter(1), 1);
        due("letter 126", x.letter(126), 2);
        due("blank of 2", x.blank(), 2);
        due("blank of 0", x.blank(), 0);
        for (int i = 1; i <= 32; i++) {
            due("letter no. " + i, x.letter('d'), i);
        }
        long before = x.digest();
        due("letter no. 33", x.letter('d'), FULL);
        due("letter no. 33 that is none", x.letter(127), OUTSIDE);
        same("letter", x, before);
        due("fault of 32", x.fault(), 5);
        due("blank of 32", x.blank(), 32);
        due("count 8", x.count(8), 0);
    }

    private static void fault(String text, int want) {
        BlobCorners x = new BlobCorners();
        write(x, text);
        due("fault of '" + text + "'", x.fault(), want);
        due("letters behind fault", x.count(8), text.length());
    }

    private static void fault() {
        fault("", 0);
        fault("d", 1);
        fault("dhstl", 5);
        fault("/", 0);
        fault("d//", 2);
        fault("dd/d/", 4);
        fault("dd/d", 4);
        fault("dd/ddd", 5);
        fault("dddddd", 5);
        fault("ddddd/", 6);
        fault("d/d/d/d/d", 9);
        fault("d/d/d/d/d/", 9);
        fault("d/d/d/d/dd", 9);
        fault("...../...../...../...../.....", 29);
        fault("...../...../...../...../.....d", 29);
        fault("D", 0);
        fault(".x", 1);
        fault("d d", 1);
        fault("..", 2);
        fault("d\u0001/", 1);
    }

    private static void noBlob(String text) {
        BlobCorners x = new BlobCorners();
        write(x, text);
        long before = x.digest();
        due("blob of '" + text + "'", x.blob(), STATE);
        same("blob of '" + text + "'", x, before);
        due("letters stay of '" + text + "'", x.count(8), text.length());
    }

    private static void blob() {
        for (String text : new String[] {"", ".", "...../.....", "d/", "dd/d", "dx", "dddddd", "d//d",
            "/d", "d/d/d/d/d/d", "dd/d/dd", "d/dd"}) {
            noBlob(text);
        }
        BlobCorners x = read("dh/.s");
        due("page behind blob", x.count(8), 0);
        due("width", x.count(1), 2);
        due("height", x.count(2), 2);
        due("read once", x.count(9), 1);
        x.rack(0, 0);
        x.see(0, 0, true);
        x.image();
        x.weight();
        write(x, "dx");
        long before = x.digest();
        due("blob that is none", x.blob(), STATE);
        same("blob", x, before);
        x.blank();
        write(x, "lll");
        due("another blob", x.blob(), 3);
        due("width then", x.count(1), 3);
        due("height then", x.count(2), 1);
        due("racks then", x.count(6), 0);
        due("seen then", x.count(7), 0);
        due("sorts then", x.dot(0, 1), 31);
        due("read twice", x.count(9), 2);
        due("weights stay counted", x.count(10), 1);
        due("restore then", x.restore(), STATE);
        due("kind then", x.dot(2, 0), 4);
        due("great blob", read("ddddd/ddddd/ddddd/ddddd/ddddd").count(0), 25);
    }

    private static void dotKinds() {
        BlobCorners x = read("dhs/tl.");
        int[] kinds = {0, 1, 2, 3, 4, NONE};
        for (int place = 0; place < 6; place++) {
            due("kind at " + place, x.dot(place, 0), kinds[place]);
            due("sorts at " + place, x.dot(place, 1), 31);
            due("ask at " + place, x.dot(place, 2), 0);
        }
        due("dot -1", x.dot(-1, 0), UNKNOWN);
        due("dot 6", x.dot(6, 0), UNKNOWN);
        due("dot 6, 3", x.dot(6, 3), UNKNOWN);
        due("dot 0, 3", x.dot(0, 3), OUTSIDE);
        due("dot 0, -1", x.dot(0, -1), OUTSIDE);
        due("dot MIN, MAX", x.dot(MIN, MAX), UNKNOWN);
    }

    private static void as() {
        BlobCorners x = read("dhs/tl.");
        boolean[][] is = {
            {true, false, false, false, false},
            {true, true, false, false, false},
            {true, true, true, false, false},
            {true, false, false, true, false},
            {true, false, false, false, true}};
        for (int place = 0; place < 5; place++) {
            for (int kind = 0; kind < 5; kind++) {
                due("as " + place + " " + kind, x.as(place, kind), is[place][kind] ? place : NONE);
            }
        }
        due("as without dot", x.as(5, 0), UNKNOWN);
        due("as without dot, kind wrong", x.as(5, 5), UNKNOWN);
        due("as beyond", x.as(6, 0), UNKNOWN);
        due("as -1", x.as(-1, 0), UNKNOWN);
        due("as kind 5", x.as(0, 5), OUTSIDE);
        due("as kind -1", x.as(0, -1), OUTSIDE);
    }

    private static void outlinePoints(BlobCorners x, int outline, int... points) {
        due("length of " + outline, x.outline(outline, 0), points.length);
        for (int i = 0; i < points.length; i++) {
            due("point " + i + " of " + outline, x.point(outline, i, 0), points[i]);
        }
        due("point behind " + outline, x.point(outline, points.length, 0), UNKNOWN);
    }

    private static void outlineOrder() {
        BlobCorners x = read("ddd/d.d/ddd");
        outlinePoints(x, 0, 0, 10, 20, 30, 31, 32, 33, 23, 13, 3, 2, 1);
        // Of the two ways round the hole's first POINT only the one down has the DOT on the right.
        outlinePoints(x, 1, 11, 12, 22, 21);
        due("outer goes clockwise", x.outline(0, 1), 0);
        due("hole goes anticlockwise", x.outline(1, 1), 1);
        x = read("d./.d");
        outlinePoints(x, 0, 0, 10, 11, 1);
        outlinePoints(x, 1, 11, 21, 22, 12);
        x = read(".d/d.");
        // By x ahead of y, so the lower DOT is the first one.
        outlinePoints(x, 0, 1, 11, 12, 2);
        outlinePoints(x, 1, 10, 20, 21, 11);
        // DOTS that meet at a POINT alone are apart, so what is inside is joined with what is outside.
        x = read(".dd/d.d/ddd");
        outlinePoints(x, 0, 1, 11, 12, 22, 21, 11, 10, 20, 30, 31, 32, 33, 23, 13, 3, 2);
        due("one outline", x.count(3), 1);
        due("no hole", x.count(4), 0);
        due("twice its area", x.outline(0, 5), 14);
        due("the same place is not joined", x.joined(0, 1, 5), 0);
        due("nor has it a penalty", x.penalty(0, 1, 5), NONE);
        x = read("d.d.d/.d.d./d.d.d/.d.d./d.d.d");
        due("most outlines", x.count(3), 13);
        outlinePoints(x, 12, 44, 54, 55, 45);
        due("outline 13", x.outline(13, 0), UNKNOWN);
    }

    private static void outlineAnswers() {
        BlobCorners x = read("ddd/d.d/ddd");
        int[] outer = {12, 0, 4, 0, 18, 18, 0};
        // A turn lies 1 beside the line from its neighbours, twice that is more than 1 * 1.
        int[] hole = {4, 1, 4, 0, 2, 2, 0};
        for (int what = 0; what < 7; what++) {
            due("outer " + what, x.outline(0, what), outer[what]);
            due("hole " + what, x.outline(1, what), hole[what]);
        }
        due("outline 2", x.outline(2, 0), UNKNOWN);
        due("outline -1", x.outline(-1, 0), UNKNOWN);
        due("outline 2, 7", x.outline(2, 7), UNKNOWN);
        due("outline 0, 7", x.outline(0, 7), OUTSIDE);
        due("outline 0, -1", x.outline(0, -1), OUTSIDE);
        // A triangle: the fourth POINT lies 1 beside the line that is the root of 2 long.
        x = read("l");
        int[] loose = {4, 0, 3, Float.floatToIntBits(0.5f), 1, 2, 0};
        for (int what = 0; what < 7; what++) {
            due("loose " + what, x.outline(0, what), loose[what]);
        }
        due("hard: turns stay", read("dhd").outline(0, 6), 0);
        due("hard at the end", read("hdd").outline(0, 6), 2);
        due("hard alone", read("h").outline(0, 6), 4);
        due("sharp: all stay", read("dsd").outline(0, 6), 4);
        due("sharp: corners", read("dsd").outline(0, 2), 8);
        due("hard ones: corners", read("hhh").outline(0, 2), 4);
        due("thin ones: corners", read("ttt").outline(0, 2), 4);
        due("loose ones: corners", read("lll/lll").outline(0, 2), 3);
    }

    private static void points() {
        BlobCorners x = read("dt/l.");
        outlinePoints(x, 0, 0, 10, 20, 21, 11, 12, 2, 1);
        int[] leeways = {1, 0, 0, 0, 0, 2, 2, 2};
        int[] reaches = {2, 1, 1, 1, 3, 3, 2, 1};
        for (int i = 0; i < 8; i++) {
            due("leeway " + i, x.point(0, i, 1), leeways[i]);
            due("must " + i, x.point(0, i, 2), 0);
            due("reach " + i, x.point(0, i, 3), reaches[i]);
        }
        x = read("h.d");
        due("hard turn", x.point(0, 0, 2), 1);
        due("plain turn of another outline", x.point(1, 0, 2), 0);
        x = read("hd");
        int[] musts = {1, 0, 0, 0, 0, 1};
        for (int i = 0; i < 6; i++) {
            due("hard: must " + i, x.point(0, i, 2), musts[i]);
        }
        x = read("sd");
        int[] sharp = {1, 1, 0, 0, 1, 1};
        for (int i = 0; i < 6; i++) {
            due("sharp: must " + i, x.point(0, i, 2), sharp[i]);
        }
        x = read("l");
        int[] ins = {1, 1, 1, 0};
        for (int i = 0; i < 4; i++) {
            due("reach at most 2 less " + i, x.point(0, i, 3), 2);
            due("in the best polygon " + i, x.point(0, i, 4), ins[i]);
        }
        // A POINT between two DOTS that meet there alone touches both of them.
        x = read("d./.t");
        due("leeway by a dot of another outline", x.point(0, 2, 1), 0);
        due("point outline", x.point(2, 0, 0), UNKNOWN);
        due("point -1", x.point(0, -1, 0), UNKNOWN);
        due("point number, what", x.point(0, 4, 5), UNKNOWN);
        due("point what", x.point(0, 0, 5), OUTSIDE);
        due("point what -1", x.point(0, 0, -1), OUTSIDE);
    }

    private static void joinedAndPenalty() {
        // Steps of 1 and 1, 2: the stairs of promise 8's kind.
        BlobCorners x = read("d./dd");
        outlinePoints(x, 0, 0, 10, 11, 21, 22, 12, 2, 1);
        due("0 to 1", x.joined(0, 0, 1), 1);
        due("0 to 3: 1 beside, span 2", x.joined(0, 0, 3), 1);
        due("1 to 3: 1 beside, span 1", x.joined(0, 1, 3), 0);
        due("0 to 2: a turn", x.joined(0, 0, 2), 0);
        due("6 to 0 round", x.joined(0, 6, 0), 1);
        due("5 to 7 round a turn", x.joined(0, 5, 7), 0);
        due("7 to 0 round", x.joined(0, 7, 0), 1);
        due("0 to 7: the other way", x.joined(0, 0, 7), 0);
        due("penalty 0 to 1", x.penalty(0, 0, 1), 0);
        // From (0,0) to (2,1): (1,0) and (1,1) lie 1 and 1 beside: (1 + 1) / 5.
        due("penalty 0 to 3", x.penalty(0, 0, 3), Float.floatToIntBits(0.4f));
        due("penalty 0 to 2", x.penalty(0, 0, 2), NONE);
        for (int[] wrongOnes : new int[][] {{1, 0, 1}, {-1, 0, 1}, {0, -1, 1}, {0, 8, 1}, {0, 0, 8},
            {0, 0, -1}, {0, 3, 3}, {MIN, MIN, MAX}, {0, MAX, MIN}}) {
            due("joined wrong", x.joined(wrongOnes[0], wrongOnes[1], wrongOnes[2]), UNKNOWN);
            due("penalty wrong", x.penalty(wrongOnes[0], wrongOnes[1], wrongOnes[2]), UNKNOWN);
        }
        due("none over a sharp point", read("sdd").joined(0, 0, 3), 0);
        due("over a hard point that is no turn", read("dhd").joined(0, 0, 3), 1);
        due("none over a thin one beside", read("t./dd").joined(0, 0, 3), 0);
        due("over a thin one on the line", read("dtd").joined(0, 0, 3), 1);
        due("loose: twice as far", read("l").joined(0, 1, 3), 1);
    }

    private static void corners(String text, int... numbers) {
        BlobCorners x = read(text);
        due("corners of " + text, x.outline(0, 2), numbers.length);
        for (int i = 0; i < numbers.length; i++) {
            due("corner " + i + " of " + text, x.corner(0, i), numbers[i]);
            due("it is one " + text, x.point(0, numbers[i], 4), 1);
        }
        due("corner behind " + text, x.corner(0, numbers.length), UNKNOWN);
        due("corner -1 " + text, x.corner(0, -1), UNKNOWN);
        due("corner of outline 1 " + text, x.corner(1, 0), UNKNOWN);
    }

    private static void cornersOfPolygons() {
        corners("d", 0, 1, 2, 3);
        corners("l", 0, 1, 2);
        corners("ddd", 0, 3, 4, 7);
        corners("ddd/ddd/ddd", 0, 3, 6, 9);
        corners("lll/lll", 0, 4, 8);
        corners("s", 0, 1, 2, 3);
        corners("sd", 0, 1, 2, 3, 4, 5);
        corners("hd", 0, 2, 3, 5);
    }

    private static void put() {
        BlobCorners x = read("d.");
        due("put", x.put(1, 4), 1);
        due("kind put", x.dot(1, 0), 4);
        due("put another", x.put(1, 1), 1);
        due("kind put then", x.dot(1, 0), 1);
        due("dots", x.count(0), 2);
        x = read("d../...");
        due("put apart", x.put(4, 0), 2);
        long before = x.digest();
        due("put -1", x.put(-1, 0), UNKNOWN);
        due("put 6", x.put(6, 0), UNKNOWN);
        due("put 6, 5", x.put(6, 5), UNKNOWN);
        due("put kind 5", x.put(0, 5), OUTSIDE);
        due("put kind -1", x.put(0, -1), OUTSIDE);
        same("put", x, before);
    }

    private static void take() {
        BlobCorners x = read("ddd");
        due("take", x.take(1), 2);
        due("kind then", x.dot(1, 0), NONE);
        long before = x.digest();
        due("take none", x.take(1), UNKNOWN);
        due("take 3", x.take(3), UNKNOWN);
        due("take -1", x.take(-1), UNKNOWN);
        same("take", x, before);
        due("take the second", x.take(0), 1);
        before = x.digest();
        due("take the only one", x.take(2), STATE);
        due("take none beside the only one", x.take(0), UNKNOWN);
        same("take of the only one", x, before);
    }

    private static void kinds(String what, BlobCorners x, int width, int... kinds) {
        due(what + " width", x.count(1), width);
        due(what + " height", x.count(2), kinds.length / width);
        for (int i = 0; i < kinds.length; i++) {
            due(what + " kind " + i, x.dot(i, 0), kinds[i]);
        }
    }

    private static void turnAndMirror() {
        BlobCorners x = read("dhs/tl.");
        x.see(0, 1, true);
        int corners = x.count(5);
        due("turn", x.turn(), x.count(5));
        kinds("turned", x, 2, 3, 0, 4, 1, NONE, 2);
        due("what is seen stays at its place", x.dot(0, 1), 4);
        due("mirror", x.mirror(), x.count(5));
        kinds("mirrored", x, 2, 0, 3, 1, 4, 2, NONE);
        due("what is seen stays at its place, mirrored", x.dot(0, 1), 4);
        x.mirror();
        x.turn();
        x.turn();
        due("round", x.turn(), corners);
        kinds("round", x, 3, 0, 1, 2, 3, 4, NONE);
        due("corners of two outlines", read("d.d").turn(), 8);
        due("corners of two outlines, mirrored", read("d.l").mirror(), 7);
    }

    private static void racks() {
        BlobCorners x = read("dhs/tl.");
        due("rack hard of plain", x.rack(0, 1), NONE);
        due("rack sharp of hard", x.rack(1, 2), NONE);
        due("rack hard of sharp", x.rack(2, 1), 1);
        due("rack hard of hard", x.rack(1, 1), 2);
        due("racked 1 0", x.racked(1, 0), 2);
        due("racked 1 1", x.racked(1, 1), 1);
        due("racked 1 2", x.racked(1, 2), NONE);
        due("rack plain of thin", x.rack(3, 0), 1);
        due("rack plain of loose", x.rack(4, 0), 2);
        due("rack plain of sharp", x.rack(2, 0), 3);
        due("on all racks", x.count(6), 5);
        long before = x.digest();
        due("rack full", x.rack(0, 0), FULL);
        due("rack without dot", x.rack(5, 0), UNKNOWN);
        due("rack beyond", x.rack(6, 0), UNKNOWN);
        due("rack without dot, kind wrong", x.rack(5, 5), UNKNOWN);
        due("rack kind 5", x.rack(0, 5), OUTSIDE);
        due("rack kind -1", x.rack(0, -1), OUTSIDE);
        due("rack none such", x.rack(0, 4), NONE);
        same("rack", x, before);
        due("rack the third hard", x.rack(2, 1), 3);
        due("refusals come first", x.rack(0, 1), FULL);
        due("racked kind 5", x.racked(5, 0), OUTSIDE);
        due("racked kind -1", x.racked(-1, 0), OUTSIDE);
        due("racked number 3", x.racked(0, 3), OUTSIDE);
        due("racked number -1", x.racked(0, -1), OUTSIDE);
        due("racked none", x.racked(4, 2), NONE);
    }

    private static void racksAreEmptied() {
        BlobCorners x = read("ddd/d.d");
        x.rack(0, 0);
        x.put(9, 9);
        x.weight();
        x.see(0, 0, true);
        x.forget();
        x.image();
        due("racks stay", x.count(6), 1);
        x.put(0, 0);
        due("racks behind put", x.count(6), 0);
        x.rack(0, 0);
        x.take(0);
        due("racks behind take", x.count(6), 0);
        x.rack(1, 0);
        x.turn();
        due("racks behind turn", x.count(6), 0);
        x.rack(0, 0);
        x.mirror();
        due("racks behind mirror", x.count(6), 0);
        due("rack", x.rack(1, 0), 1);
        x.restore();
        due("racks behind restore", x.count(6), 0);
        due("racked behind restore", x.racked(0, 0), NONE);
    }

    private static void weight() {
        BlobCorners x = read("d.d");
        due("weight of like ones", x.weight(), 0);
        due("asked once", x.count(10), 1);
        x.take(0);
        due("weight of the only one", x.weight(), NONE);
        due("asked twice", x.count(10), 2);
        write(x, "sd.l");
        x.blob();
        // Without the sharp one 4 and 3, without the plain one as much, without the loose one 6.
        due("weight", x.weight(), 3);
        due("asked three times", x.count(10), 3);
        due("weight 4", x.weight(), 3);
        due("weight 5", x.weight(), 3);
        long before = x.digest();
        due("weight 6", x.weight(), STATE);
        due("asked five times", x.count(10), 5);
        same("weight", x, before);
    }

    private static void seeAndForget() {
        BlobCorners x = read("d.");
        due("see", x.see(0, 0, false), 1);
        due("see at a place without dot", x.see(1, 3, true), 2);
        due("sorts there", x.dot(1, 1), 16);
        long before = x.digest();
        due("see -1", x.see(-1, 0, true), UNKNOWN);
        due("see 2", x.see(2, 4, true), UNKNOWN);
        due("see what 4", x.see(0, 4, true), OUTSIDE);
        due("see what -1", x.see(0, -1, true), OUTSIDE);
        same("see", x, before);
        for (int i = 3; i <= 6; i++) {
            due("see no. " + i, x.see(0, 0, false), i);
        }
        before = x.digest();
        due("see no. 7", x.see(0, 0, false), FULL);
        due("see no. 7, what wrong", x.see(0, 4, false), OUTSIDE);
        same("see no. 7", x, before);
        due("count 7", x.count(7), 6);
        due("forget", x.forget(), 6);
        due("forget then", x.forget(), 0);
        due("sorts then", x.dot(0, 1), 31);
    }

    private static void sorts(int what, boolean was, int sorts, int ask) {
        BlobCorners x = read("d");
        x.see(0, what, was);
        due("sorts by " + what + " " + was, x.dot(0, 1), sorts);
        due("ask by " + what + " " + was, x.dot(0, 2), ask);
    }

    private static void sortsAndAsk() {
        sorts(0, true, 6, 1);
        // Plain, thin, loose: 2 parts off the thin one; 3 would do as well.
        sorts(0, false, 25, 2);
        sorts(1, true, 4, 0);
        sorts(1, false, 27, 0);
        sorts(2, true, 23, 0);
        sorts(2, false, 8, 0);
        sorts(3, true, 16, 0);
        sorts(3, false, 15, 0);
        BlobCorners x = read("dd");
        x.see(0, 1, true);
        x.see(0, 3, true);
        due("no sort left", x.dot(0, 1), 0);
        due("nothing to ask", x.dot(0, 2), NONE);
        due("of the other all", x.dot(1, 1), 31);
        x.put(0, 4);
        due("what is seen stays when a dot changes", x.count(7), 2);
    }

    private static void drawn() {
        BlobCorners x = new BlobCorners();
        due("corners", x.drawn(3, 1072, 0), 23);
        due("outlines", x.drawn(3, 1072, 1), 4);
        due("seed of 3", x.drawn(3, 1072, 2), 1760137148);
        long seed = MAX;
        for (int i = 0; i < 12; i++) {
            seed = (1103515245L * seed + 12345L) % (1L << 31);
        }
        due("seed of 1", x.drawn(1, MAX, 2), seed);
        for (int i = 0; i < 12; i++) {
            seed = (1103515245L * seed + 12345L) % (1L << 31);
        }
        due("seed of 2", x.drawn(2, MAX, 2), seed);
        due("seed 0", x.drawn(2, 0, 2), 1538207304);
        due("times 0", x.drawn(0, 1, 0), OUTSIDE);
        due("times 4", x.drawn(4, 1, 0), OUTSIDE);
        due("seed -1", x.drawn(1, -1, 0), OUTSIDE);
        due("what 3", x.drawn(1, 1, 3), OUTSIDE);
        due("what -1", x.drawn(1, 1, -1), OUTSIDE);
        x = read("dhs/tl.");
        x.rack(0, 0);
        long before = x.digest();
        x.drawn(3, 5, 0);
        x.drawn(1, 7, 1);
        same("drawn (as they would be)", x, before);
    }

    private static void imageAndRestore() {
        BlobCorners x = read("dhs/tl.");
        due("restore without image", x.restore(), STATE);
        x.see(0, 0, true);
        due("image", x.image(), 5);
        long before = x.digest();
        x.turn();
        x.take(0);
        x.forget();
        due("restore", x.restore(), 5);
        same("round of image and restore", x, before);
        due("restore again", x.restore(), 5);
        x.take(1);
        due("the latest image", x.image(), 4);
        x.put(1, 0);
        x.see(1, 1, false);
        due("restore the latest", x.restore(), 4);
        due("seen of the latest", x.count(7), 1);
        x.weight();
        x.restore();
        due("weights are not of the image", x.count(10), 1);
        write(x, "d/");
        due("no other blob", x.blob(), STATE);
        due("restore then", x.restore(), 4);
        due("the page is not of the image", x.count(8), 2);
        x.blank();
        write(x, "d");
        x.blob();
        due("another blob since", x.restore(), STATE);
        due("another image", x.image(), 1);
        due("restore that", x.restore(), 1);
    }

    private static void counts() {
        BlobCorners x = read("ddd/d.d/ddl");
        x.rack(0, 0);
        x.see(1, 1, true);
        x.see(2, 2, true);
        x.letter('d');
        x.letter('d');
        x.letter('d');
        x.weight();
        int[] want = {8, 3, 3, 2, 1, x.outline(0, 2) + x.outline(1, 2), 1, 2, 3, 1, 1};
        for (int what = 0; what <= 10; what++) {
            due("count " + what, x.count(what), want[what]);
        }
        for (int what : new int[] {-1, 11, MIN, MAX}) {
            due("count " + what, x.count(what), OUTSIDE);
        }
    }

    private static long mix(long h, long number) {
        return 31 * h + number;
    }

    /** As the document tells it, by the public calls. */
    private static long digestByCalls(BlobCorners x, String page) {
        long h = 1439;
        for (int place = 0; place < x.count(1) * x.count(2); place++) {
            for (int what = 0; what < 3; what++) {
                h = mix(h, x.dot(place, what));
            }
        }
        for (int outline = 0; outline < x.count(3); outline++) {
            for (int what = 0; what < 7; what++) {
                h = mix(h, x.outline(outline, what));
            }
            for (int number = 0; number < x.outline(outline, 0); number++) {
                for (int what = 0; what < 5; what++) {
                    h = mix(h, x.point(outline, number, what));
                }
            }
        }
        for (int kind = 0; kind < 5; kind++) {
            for (int number = 0; number < 3; number++) {
                h = mix(h, x.racked(kind, number));
            }
        }
        for (int i = 0; i < page.length(); i++) {
            h = mix(h, page.charAt(i));
        }
        for (int what = 0; what <= 10; what++) {
            h = mix(h, x.count(what));
        }
        return h;
    }

    private static void digest() {
        for (String text : new String[] {"d", "ddd/d.d/ddd", "dhs/tl.", ".dd/d.d/ddd", "d.d.d/.l.t."}) {
            BlobCorners x = read(text);
            x.rack(1, 0);
            x.see(0, 1, false);
            x.weight();
            write(x, "d/x");
            due("digest of " + text, x.digest(), digestByCalls(x, "d/x"));
            due("digest changes nothing", x.digest(), digestByCalls(x, "d/x"));
        }
    }
}

/**
 * The boundary cases that the document names, each sentence by a test of its own: the least and the
 * greatest number that a call takes and one beyond each, nothing there yet, full, where an OUTLINE goes
 * round, each refusal, of several the first, and that a refused call changes nothing.
 */
public final class BoundaryTest {
    private static final int NONE = -1;
    private static final int UNKNOWN = -101;
    private static final int OUTSIDE = -102;
    private static final int STATE = -103;
    private static final int FULL = -104;
    private static final int MIN = Integer.MIN_VALUE;
    private static final int MAX = Integer.MAX_VALUE;
    private static final String GREATEST = "ddddd/ddddd/ddddd/ddddd/ddddd";

    private static int wrong = 0;
    private static String sentence = "";

    private interface Call {
        long answer();
    }

    private static void says(String text) {
        sentence = text;
    }

    private static void due(String what, long got, long want) {
        if (got != want) {
            wrong++;
            System.out.println("'" + sentence + "': " + what + " answered " + got + ", due is " + want);
        }
    }

    private static void bits(String what, int got, float want) {
        due(what, got, Float.floatToIntBits(want));
    }

    /** A call that is refused, and changes nothing that digest() tells. */
    private static void refused(BlobCorners x, String what, int want, Call call) {
        long before = x.digest();
        due(what, call.answer(), want);
        due(what + ": digest() behind it", x.digest(), before);
    }

    private static void write(BlobCorners x, String text) {
        for (int i = 0; i < text.length(); i++) {
            x.letter(text.charAt(i));
        }
    }

    private static BlobCorners pageOf(String text) {
        BlobCorners x = new BlobCorners();
        write(x, text);
        return x;
    }

    private static BlobCorners blobOf(String text) {
        BlobCorners x = pageOf(text);
        due("blob of " + text, x.blob(), text.replace("/", "").replace(".", "").length());
        return x;
    }

    private static void answers(String what, int[] got, int... want) {
        due(what + ", how many", got.length, want.length);
        for (int i = 0; i < got.length && i < want.length; i++) {
            due(what + " " + i, got[i], want[i]);
        }
    }

    private static int[] points(BlobCorners x, int outline, int what) {
        int[] all = new int[Math.max(0, x.outline(outline, 0))];
        for (int i = 0; i < all.length; i++) {
            all[i] = x.point(outline, i, what);
        }
        return all;
    }

    private static int[] corners(BlobCorners x, int outline) {
        int[] all = new int[Math.max(0, x.outline(outline, 2))];
        for (int i = 0; i < all.length; i++) {
            all[i] = x.corner(outline, i);
        }
        return all;
    }

    private static int[] kinds(BlobCorners x) {
        int[] all = new int[x.count(1) * x.count(2)];
        for (int i = 0; i < all.length; i++) {
            all[i] = x.dot(i, 0);
        }
        return all;
    }

    public static void main(String[] args) {
        nothingThereYet();
        pageSentences();
        blobSentences();
        dotSentences();
        outlineSentences();
        joinedSentences();
        polygonSentences();
        doneSentences();
        rackSentences();
        weightSentences();
        seenSentences();
        drawnSentences();
        imageSentences();
        allSentences();
        System.out.println(wrong == 0 ? "all boundaries hold" : wrong + " answers are not as due");
        if (wrong != 0) {
            System.exit(1);
        }
    }

    // ---- 1: nothing there yet

    private static void nothingThereYet() {
        newObjectCounts();
        newObjectNamesNothing();
        newObjectState();
        newObjectAnswers();
        newObjectKeepsWhatNeedsNoBlob();
    }

    private static void newObjectCounts() {
        says("No BLOB: at first there is none");
        BlobCorners x = new BlobCorners();
        for (int what = 0; what <= 10; what++) {
            due("count(" + what + ")", x.count(what), 0);
        }
        long h = 1439;
        for (int i = 0; i < 15; i++) {
            h = 31 * h + NONE;
        }
        for (int i = 0; i < 11; i++) {
            h = 31 * h;
        }
        due("digest()", x.digest(), h);
    }

    private static void newObjectNamesNothing() {
        says("UNKNOWN (a number names nothing): without BLOB no PLACE and no OUTLINE is there");
        BlobCorners x = new BlobCorners();
        refused(x, "dot(0, 0)", UNKNOWN, () -> x.dot(0, 0));
        refused(x, "dot(0, 3)", UNKNOWN, () -> x.dot(0, 3));
        refused(x, "as(0, 0)", UNKNOWN, () -> x.as(0, 0));
        refused(x, "as(0, 5)", UNKNOWN, () -> x.as(0, 5));
        refused(x, "outline(0, 0)", UNKNOWN, () -> x.outline(0, 0));
        refused(x, "outline(0, 7)", UNKNOWN, () -> x.outline(0, 7));
        refused(x, "point(0, 0, 0)", UNKNOWN, () -> x.point(0, 0, 0));
        refused(x, "point(0, 0, 5)", UNKNOWN, () -> x.point(0, 0, 5));
        refused(x, "joined(0, 0, 1)", UNKNOWN, () -> x.joined(0, 0, 1));
        refused(x, "penalty(0, 0, 1)", UNKNOWN, () -> x.penalty(0, 0, 1));
        refused(x, "corner(0, 0)", UNKNOWN, () -> x.corner(0, 0));
        refused(x, "put(0, 0)", UNKNOWN, () -> x.put(0, 0));
        refused(x, "put(0, 5)", UNKNOWN, () -> x.put(0, 5));
        refused(x, "take(0)", UNKNOWN, () -> x.take(0));
        refused(x, "rack(0, 0)", UNKNOWN, () -> x.rack(0, 0));
        refused(x, "rack(0, 5)", UNKNOWN, () -> x.rack(0, 5));
        refused(x, "see(0, 0, true)", UNKNOWN, () -> x.see(0, 0, true));
        refused(x, "see(0, 4, true)", UNKNOWN, () -> x.see(0, 4, true));
    }

    private static void newObjectState() {
        says("STATE: no BLOB; none was kept");
        BlobCorners x = new BlobCorners();
        refused(x, "blob()", STATE, x::blob);
        refused(x, "turn()", STATE, x::turn);
        refused(x, "mirror()", STATE, x::mirror);
        refused(x, "weight()", STATE, x::weight);
        refused(x, "image()", STATE, x::image);
        refused(x, "restore()", STATE, x::restore);
    }

    private static void newObjectAnswers() {
        says("nothing there yet: how much it was is 0");
        BlobCorners x = new BlobCorners();
        due("blank()", x.blank(), 0);
        due("fault()", x.fault(), 0);
        due("forget()", x.forget(), 0);
        for (int kind = 0; kind <= 4; kind++) {
            for (int number = 0; number <= 2; number++) {
                due("racked(" + kind + ", " + number + ")", x.racked(kind, number), NONE);
            }
        }
    }

    private static void newObjectKeepsWhatNeedsNoBlob() {
        says("DRAWN by a SEED, as they would be: no BLOB is needed, and none comes");
        BlobCorners x = new BlobCorners();
        due("drawn(1, 207, 0)", x.drawn(1, 207, 0), 4);
        due("count(9)", x.count(9), 0);
        due("turn()", x.turn(), STATE);
    }

    // ---- 2 to 4: THE PAGE

    private static void pageSentences() {
        letterCodes();
        letterFull();
        blankEmpties();
        faultRows();
        faultSigns();
        faultWithoutDot();
        faultOfNone();
        faultIsTheFirst();
    }

    private static void letterCodes() {
        says("OUTSIDE: code (1 to 126)");
        BlobCorners x = new BlobCorners();
        refused(x, "letter(0)", OUTSIDE, () -> x.letter(0));
        refused(x, "letter(-1)", OUTSIDE, () -> x.letter(-1));
        refused(x, "letter(127)", OUTSIDE, () -> x.letter(127));
        // Those that would be a 'd', if they were cut off to a byte or a char.
        refused(x, "letter(256 + 'd')", OUTSIDE, () -> x.letter(256 + 'd'));
        refused(x, "letter(65536 + 'd')", OUTSIDE, () -> x.letter(65536 + 'd'));
        refused(x, "letter(MIN)", OUTSIDE, () -> x.letter(MIN));
        refused(x, "letter(MAX)", OUTSIDE, () -> x.letter(MAX));
        due("letter(1)", x.letter(1), 1);
        due("letter(126)", x.letter(126), 2);
        due("letters", x.count(8), 2);
    }

    private static void letterFull() {
        says("FULL: above 32");
        BlobCorners x = new BlobCorners();
        for (int i = 1; i <= 32; i++) {
            due("letter " + i, x.letter(100), i);
        }
        refused(x, "letter 33", FULL, () -> x.letter(100));
        refused(x, "letter 33 outside", OUTSIDE, () -> x.letter(0));
        refused(x, "letter 33 beyond", OUTSIDE, () -> x.letter(127));
        due("letters", x.count(8), 32);
        due("blank()", x.blank(), 32);
        due("letter behind blank()", x.letter(100), 1);
    }

    private static void blankEmpties() {
        says("THE PAGE is empty: how many letters it had");
        BlobCorners x = blobOf("d.h");
        write(x, "l");
        due("blank() of one", x.blank(), 1);
        due("blank() of none", x.blank(), 0);
        due("fault()", x.fault(), 0);
        due("blob()", x.blob(), STATE);
        answers("the BLOB stays", kinds(x), 0, NONE, 1);
    }

    private static void fault(String text, int want) {
        BlobCorners x = pageOf(text);
        long before = x.digest();
        due("fault() of '" + text + "'", x.fault(), want);
        due("digest() behind it", x.digest(), before);
    }

    private static void faultRows() {
        says("one to five ROWS with '/' between, each of as many signs as the first one (one to five)");
        fault("/", 0);
        fault("d", 1);
        fault("ddddd", 5);
        fault("dddddd", 5);
        fault("d/", 2);
        fault("d//", 2);
        fault("d/d", 3);
        fault("d/dd", 3);
        fault("dd/d/", 4);
        fault("dd/dd", 5);
        fault("dd/dd/d/", 7);
        fault("ddddd/dddddd", 11);
        fault("d/d/d/d/d", 9);
        fault("d/d/d/d/d/", 9);
        fault("d/d/d/d/dd", 9);
        fault(GREATEST, 29);
        fault(GREATEST + "/", 29);
        fault(GREATEST + "d", 29);
        fault(GREATEST + "ddd", 29);
    }

    private static void faultSigns() {
        says("'.' no DOT, else a DOT of a KIND, told by the letter: d, h, s, t, l");
        for (int code = 1; code <= 126; code++) {
            BlobCorners x = new BlobCorners();
            x.letter(code);
            due("fault() of " + code, x.fault(), ".dhstl".indexOf(code) >= 0 ? 1 : 0);
            BlobCorners y = pageOf("l.");
            y.letter(code);
            due("fault() of 'l.' and " + code, y.fault(), ".dhstl/".indexOf(code) >= 0 ? 3 : 2);
        }
    }

    private static void faultWithoutDot() {
        says("whether a DOT comes yet does not matter");
        fault(".", 1);
        fault("..../....", 9);
        fault("...../...../...../...../.....", 29);
        fault("...../...../...../...../...../", 29);
    }

    private static void faultOfNone() {
        says("how many letters it has, if there is none");
        fault("", 0);
        fault("dd/d", 4);
        fault("dd/", 3);
        fault("dh/st/l.", 8);
    }

    private static void faultIsTheFirst() {
        says("the first letter of THE PAGE that no BLOB has there, behind those ahead of it");
        fault("xx", 0);
        fault("dx/x", 1);
        fault("dd/x", 3);
        fault("dd/d/x", 4);
    }

    // ---- 5: blob

    private static void blobSentences() {
        blobsThatAre();
        blobsThatAreNone();
        blobOnceMore();
        blobEmptiesThePage();
    }

    private static void blobsThatAre() {
        says("A BLOB is one to five ROWS, each of as many signs as the first one (one to five)");
        String[] texts = {"d", "ddddd", "d/d/d/d/d", GREATEST, ".d", "./d", "..../...s", "d./.."};
        int[][] sizes = {{1, 1}, {5, 1}, {1, 5}, {5, 5}, {2, 1}, {1, 2}, {4, 2}, {2, 2}};
        for (int i = 0; i < texts.length; i++) {
            BlobCorners x = blobOf(texts[i]);
            due("width of " + texts[i], x.count(1), sizes[i][0]);
            due("height of " + texts[i], x.count(2), sizes[i][1]);
            due("page behind " + texts[i], x.count(8), 0);
            due("reads behind " + texts[i], x.count(9), 1);
        }
        answers("each KIND's letter", kinds(blobOf("dhstl/.....")),
            0, 1, 2, 3, 4, NONE, NONE, NONE, NONE, NONE);
    }

    private static void blobsThatAreNone() {
        says("STATE: it is none");
        for (String text : new String[] {"", "/", "/d", "d/", "d//d", "dddddd", "d/d/d/d/d/d", "dd/d", "d/dd",
            "dd/d/dd", "dd/ddd", "dx", "D", "d/d/", GREATEST + "/", GREATEST + "d", "d d"}) {
            BlobCorners x = pageOf(text);
            refused(x, "blob() of '" + text + "'", STATE, x::blob);
            due("letters of '" + text + "'", x.count(8), text.length());
            due("turn() behind '" + text + "'", x.turn(), STATE);
        }
        says("There has to be one DOT at least");
        for (String text : new String[] {".", ".....", "./.", "...../...../...../...../....."}) {
            BlobCorners x = pageOf(text);
            refused(x, "blob() of '" + text + "'", STATE, x::blob);
        }
    }

    private static void blobOnceMore() {
        says("another one is gone, with all that was");
        BlobCorners x = blobOf(GREATEST);
        x.rack(24, 0);
        x.see(24, 0, true);
        x.see(0, 1, true);
        x.image();
        x.outline(0, 3);
        write(x, "l");
        due("blob()", x.blob(), 1);
        due("the old PLACE", x.dot(1, 0), UNKNOWN);
        due("width", x.count(1), 1);
        due("height", x.count(2), 1);
        due("RACKS", x.count(6), 0);
        due("racked(0, 0)", x.racked(0, 0), NONE);
        due("SEEN", x.count(7), 0);
        due("SORTS", x.dot(0, 1), 31);
        due("CORNERS", x.count(5), 3);
        due("LENGTH", x.outline(0, 0), 4);
        due("CORNERS of the OUTLINE", x.outline(0, 2), 3);
        bits("PENALTY", x.outline(0, 3), 0.5f);
        due("how often a BLOB was read", x.count(9), 2);
        refused(x, "restore()", STATE, x::restore);
    }

    private static void blobEmptiesThePage() {
        says("THE PAGE is empty then");
        BlobCorners x = blobOf("d");
        due("letters", x.count(8), 0);
        due("letter", x.letter('h'), 1);
        due("blob()", x.blob(), 1);
        due("KIND", x.dot(0, 0), 1);
        says("a refused blob() changes nothing: THE BLOB, the IMAGE and what is SEEN stay");
        x.see(0, 0, true);
        x.rack(0, 1);
        x.image();
        refused(x, "blob() of an empty page", STATE, x::blob);
        write(x, "d.d/");
        refused(x, "blob()", STATE, x::blob);
        due("letters", x.count(8), 4);
        due("RACKS", x.count(6), 1);
        due("restore()", x.restore(), 1);
    }

    // ---- 6, 7: dot, as

    private static void dotSentences() {
        dotPlaces();
        dotWhat();
        asKinds();
        asRefusals();
    }

    private static void dotPlaces() {
        says("PLACES are numbered from 0, row by row; UNKNOWN: place");
        BlobCorners x = blobOf("dh./stl");
        answers("KINDS", kinds(x), 0, 1, NONE, 2, 3, 4);
        refused(x, "dot(-1, 0)", UNKNOWN, () -> x.dot(-1, 0));
        refused(x, "dot(6, 0)", UNKNOWN, () -> x.dot(6, 0));
        refused(x, "dot(MIN, 0)", UNKNOWN, () -> x.dot(MIN, 0));
        refused(x, "dot(MAX, 0)", UNKNOWN, () -> x.dot(MAX, 0));
        BlobCorners most = blobOf("...../...../...../...../....l");
        due("dot(24, 0)", most.dot(24, 0), 4);
        refused(most, "dot(25, 0)", UNKNOWN, () -> most.dot(25, 0));
        BlobCorners least = blobOf("t");
        due("dot(0, 0)", least.dot(0, 0), 3);
        refused(least, "dot(1, 0)", UNKNOWN, () -> least.dot(1, 0));
    }

    private static void dotWhat() {
        says("what = 0, 1, 2; UNKNOWN: place; OUTSIDE");
        BlobCorners x = blobOf("d.");
        refused(x, "dot(0, -1)", OUTSIDE, () -> x.dot(0, -1));
        refused(x, "dot(0, 3)", OUTSIDE, () -> x.dot(0, 3));
        refused(x, "dot(1, MIN)", OUTSIDE, () -> x.dot(1, MIN));
        refused(x, "dot(1, MAX)", OUTSIDE, () -> x.dot(1, MAX));
        refused(x, "dot(2, 3)", UNKNOWN, () -> x.dot(2, 3));
        refused(x, "dot(-1, -1)", UNKNOWN, () -> x.dot(-1, -1));
        due("dot(0, 0)", x.dot(0, 0), 0);
        due("dot(0, 1)", x.dot(0, 1), 31);
        due("dot(0, 2)", x.dot(0, 2), 0);
        says("NONE: none is there");
        due("dot(1, 0)", x.dot(1, 0), NONE);
        due("dot(1, 1)", x.dot(1, 1), 31);
        due("dot(1, 2)", x.dot(1, 2), 0);
    }

    private static void asKinds() {
        says("All are DOTS; a SHARP one is HARD, too; NONE: it is none such");
        BlobCorners x = blobOf("dhstl");
        String[] is = {"0", "01", "012", "03", "04"};
        for (int place = 0; place < 5; place++) {
            for (int kind = 0; kind <= 4; kind++) {
                boolean holds = is[place].indexOf('0' + kind) >= 0;
                due("as(" + place + ", " + kind + ")", x.as(place, kind), holds ? place : NONE);
            }
        }
    }

    private static void asRefusals() {
        says("UNKNOWN: place, or there is no DOT; OUTSIDE");
        BlobCorners x = blobOf("s.");
        refused(x, "as(-1, 0)", UNKNOWN, () -> x.as(-1, 0));
        refused(x, "as(2, 0)", UNKNOWN, () -> x.as(2, 0));
        refused(x, "as(1, 0)", UNKNOWN, () -> x.as(1, 0));
        refused(x, "as(1, 5)", UNKNOWN, () -> x.as(1, 5));
        refused(x, "as(2, -1)", UNKNOWN, () -> x.as(2, -1));
        refused(x, "as(MAX, MAX)", UNKNOWN, () -> x.as(MAX, MAX));
        refused(x, "as(0, -1)", OUTSIDE, () -> x.as(0, -1));
        refused(x, "as(0, 5)", OUTSIDE, () -> x.as(0, 5));
        refused(x, "as(0, MIN)", OUTSIDE, () -> x.as(0, MIN));
    }

    // ---- 8, 9: outlines and their points

    private static void outlineSentences() {
        pointsToTheEdge();
        meetingAtAPointAlone();
        outlinesInOrder();
        outlinesAtMost();
        holes();
        outlineRefusals();
        outlineThatIsGone();
        pointRefusals();
        leeways();
        touchesUpToFour();
        hasToBeACorner();
        turnAtPointZero();
    }

    private static void pointsToTheEdge() {
        says("POINTS: x 0 to the width, y 0 to the height, told as 10 times x, and y");
        answers("the least BLOB", points(blobOf("d"), 0, 0), 0, 10, 11, 1);
        answers("the greatest BLOB", points(blobOf(GREATEST), 0, 0), 0, 10, 20, 30, 40, 50, 51, 52, 53, 54,
            55, 45, 35, 25, 15, 5, 4, 3, 2, 1);
        BlobCorners x = blobOf("...../...../...../...../....d");
        answers("the last PLACE", points(x, 0, 0), 44, 54, 55, 45);
        says("EDGES lead along a side of a DOT on whose other side there is none");
        answers("no EDGE between two DOTS", points(blobOf("d/d"), 0, 0), 0, 10, 11, 12, 2, 1);
    }

    private static void meetingAtAPointAlone() {
        says("so DOTS that meet at a POINT alone are apart");
        BlobCorners x = blobOf("d./.d");
        due("OUTLINES", x.count(3), 2);
        answers("the upper left", points(x, 0, 0), 0, 10, 11, 1);
        answers("the lower right", points(x, 1, 0), 11, 21, 22, 12);
        x = blobOf(".d/d.");
        due("OUTLINES, mirrored", x.count(3), 2);
        answers("the lower left", points(x, 0, 0), 1, 11, 12, 2);
        answers("the upper right", points(x, 1, 0), 10, 20, 21, 11);
        // The gap inside opens at (1, 1), so it is no HOLE.
        x = blobOf(".dd/d.d/ddd");
        due("OUTLINES, one gap", x.count(3), 1);
        due("HOLES, one gap", x.count(4), 0);
        answers("by way of the gap", points(x, 0, 0), 1, 11, 12, 22, 21, 11, 10, 20, 30, 31, 32, 33, 23, 13, 3, 2);
        x = blobOf(".d./d.d/.d.");
        due("OUTLINES of four around a gap", x.count(3), 4);
        due("HOLES of four around a gap", x.count(4), 0);
    }

    private static void outlinesInOrder() {
        says("the first one begins with the EDGE of all that begins at the least POINT (as it is told)");
        // By x ahead of y: the DOT of the lower row lies farther to the left.
        BlobCorners x = blobOf("..d/.../d..");
        due("first", x.point(0, 0, 0), 2);
        due("next", x.point(1, 0, 0), 20);
        x = blobOf("d/./d");
        due("upper", x.point(0, 0, 0), 0);
        due("lower", x.point(1, 0, 0), 2);
        x = blobOf("ddd/d.d/ddd");
        due("outer", x.point(0, 0, 0), 0);
        answers("the HOLE, from its least POINT", points(x, 1, 0), 11, 12, 22, 21);
    }

    private static void outlinesAtMost() {
        says("the next one with such of all EDGES that are not in one yet, and so on");
        BlobCorners x = blobOf("d.d.d/.d.d./d.d.d/.d.d./d.d.d");
        due("OUTLINES", x.count(3), 13);
        int[] firsts = {0, 2, 4, 11, 13, 20, 22, 24, 31, 33, 40, 42, 44};
        for (int i = 0; i < 13; i++) {
            due("first POINT of " + i, x.point(i, 0, 0), firsts[i]);
            due("LENGTH of " + i, x.outline(i, 0), 4);
        }
        due("CORNERS", x.count(5), 52);
        refused(x, "outline(13, 0)", UNKNOWN, () -> x.outline(13, 0));
        // Four HOLES and the outer one.
        BlobCorners y = blobOf("ddddd/d.d.d/ddddd/d.d.d/ddddd");
        due("OUTLINES with HOLES", y.count(3), 5);
        due("HOLES", y.count(4), 4);
        // The longest way: a comb has 12 more POINTS than the square's 20.
        BlobCorners z = blobOf("d.d.d/d.d.d/d.d.d/d.d.d/ddddd");
        due("LENGTH of a comb", z.outline(0, 0), 36);
        due("its last POINT", z.point(0, 35, 0), 1);
        refused(z, "point(0, 36, 0)", UNKNOWN, () -> z.point(0, 36, 0));
    }

    private static void holes() {
        says("An OUTLINE goes round a HOLE, if it goes round anticlockwise");
        BlobCorners x = blobOf("lll/l.l/lll");
        int[] outer = {12, 0, 4, 0, 18, 18, 0};
        int[] hole = {4, 1, 3, Float.floatToIntBits(0.5f), 1, 2, 0};
        for (int what = 0; what <= 6; what++) {
            due("outer " + what, x.outline(0, what), outer[what]);
            due("hole " + what, x.outline(1, what), hole[what]);
        }
        due("HOLES", x.count(4), 1);
        // A gap that is open to a side is none.
        due("open to the right", blobOf("ddd/d../ddd").count(4), 0);
        // A DOT within a HOLE has its own OUTLINE.
        x = blobOf("ddddd/d...d/d.d.d/d...d/ddddd");
        due("OUTLINES", x.count(3), 3);
        due("the HOLE", x.outline(1, 1), 1);
        due("the DOT within", x.outline(2, 1), 0);
    }

    private static void outlineRefusals() {
        says("outline: UNKNOWN; OUTSIDE");
        BlobCorners x = blobOf("d.d");
        due("outline(1, 0)", x.outline(1, 0), 4);
        due("outline(1, 6)", x.outline(1, 6), 0);
        refused(x, "outline(2, 0)", UNKNOWN, () -> x.outline(2, 0));
        refused(x, "outline(-1, 0)", UNKNOWN, () -> x.outline(-1, 0));
        refused(x, "outline(MIN, 0)", UNKNOWN, () -> x.outline(MIN, 0));
        refused(x, "outline(MAX, 0)", UNKNOWN, () -> x.outline(MAX, 0));
        refused(x, "outline(2, 7)", UNKNOWN, () -> x.outline(2, 7));
        refused(x, "outline(-1, -1)", UNKNOWN, () -> x.outline(-1, -1));
        refused(x, "outline(1, 7)", OUTSIDE, () -> x.outline(1, 7));
        refused(x, "outline(0, -1)", OUTSIDE, () -> x.outline(0, -1));
        refused(x, "outline(0, MIN)", OUTSIDE, () -> x.outline(0, MIN));
        refused(x, "outline(0, MAX)", OUTSIDE, () -> x.outline(0, MAX));
    }

    private static void outlineThatIsGone() {
        says("UNKNOWN: an OUTLINE that was there, and is not any more");
        BlobCorners x = blobOf("d.d");
        due("corner(1, 3)", x.corner(1, 3), 3);
        x.take(2);
        refused(x, "outline(1, 0)", UNKNOWN, () -> x.outline(1, 0));
        refused(x, "point(1, 0, 0)", UNKNOWN, () -> x.point(1, 0, 0));
        refused(x, "joined(1, 0, 1)", UNKNOWN, () -> x.joined(1, 0, 1));
        refused(x, "penalty(1, 0, 1)", UNKNOWN, () -> x.penalty(1, 0, 1));
        refused(x, "corner(1, 0)", UNKNOWN, () -> x.corner(1, 0));
        due("CORNERS", x.count(5), 4);
        BlobCorners y = blobOf("ddd");
        y.take(0);
        refused(y, "point(0, 6, 0), a shorter one", UNKNOWN, () -> y.point(0, 6, 0));
    }

    private static void pointRefusals() {
        says("point: UNKNOWN: outline, number; OUTSIDE");
        BlobCorners x = blobOf("d.dd");
        due("point(1, 5, 0), the last", x.point(1, 5, 0), 21);
        due("point(0, 3, 4)", x.point(0, 3, 4), 1);
        refused(x, "point(0, 4, 0)", UNKNOWN, () -> x.point(0, 4, 0));
        refused(x, "point(1, 6, 0)", UNKNOWN, () -> x.point(1, 6, 0));
        refused(x, "point(0, -1, 0)", UNKNOWN, () -> x.point(0, -1, 0));
        refused(x, "point(2, 0, 0)", UNKNOWN, () -> x.point(2, 0, 0));
        refused(x, "point(-1, 0, 0)", UNKNOWN, () -> x.point(-1, 0, 0));
        refused(x, "point(MIN, MIN, MIN)", UNKNOWN, () -> x.point(MIN, MIN, MIN));
        refused(x, "point(0, MAX, 0)", UNKNOWN, () -> x.point(0, MAX, 0));
        refused(x, "point(0, 4, 5)", UNKNOWN, () -> x.point(0, 4, 5));
        refused(x, "point(2, 0, -1)", UNKNOWN, () -> x.point(2, 0, -1));
        refused(x, "point(0, 3, 5)", OUTSIDE, () -> x.point(0, 3, 5));
        refused(x, "point(0, 0, -1)", OUTSIDE, () -> x.point(0, 0, -1));
        refused(x, "point(0, 0, MAX)", OUTSIDE, () -> x.point(0, 0, MAX));
    }

    private static void leeways() {
        says("LEEWAY is 0, if it TOUCHES a THIN one, else 2, if it TOUCHES a LOOSE one, else 1");
        answers("plain", points(blobOf("d"), 0, 1), 1, 1, 1, 1);
        answers("hard", points(blobOf("h"), 0, 1), 1, 1, 1, 1);
        answers("sharp", points(blobOf("s"), 0, 1), 1, 1, 1, 1);
        answers("thin", points(blobOf("t"), 0, 1), 0, 0, 0, 0);
        answers("loose", points(blobOf("l"), 0, 1), 2, 2, 2, 2);
        answers("loose, thin, plain", points(blobOf("ltd"), 0, 1), 2, 0, 0, 1, 1, 0, 0, 2);
        answers("thin, plain, loose", points(blobOf("tdl"), 0, 1), 0, 0, 2, 2, 2, 2, 0, 0);
    }

    private static void touchesUpToFour() {
        says("A POINT TOUCHES the DOTS of which it is a corner (of those that there are, at most four)");
        // Also one of another OUTLINE that meets it there alone: POINT (1, 1).
        BlobCorners x = blobOf("d./.t");
        answers("beside a thin one", points(x, 0, 1), 1, 1, 0, 1);
        x = blobOf(".l/d.");
        answers("beside a loose one", points(x, 0, 1), 1, 2, 1, 1);
        x = blobOf("s./.d");
        answers("beside a sharp one", points(x, 1, 2), 1, 0, 0, 0);
        x = blobOf("h./.d");
        answers("beside a hard one, at a turn", points(x, 1, 2), 1, 0, 0, 0);
        // Three at POINT (1, 1): the THIN one of them is across.
        x = blobOf("dt/d.");
        due("POINT (1, 1)", x.point(0, 4, 0), 11);
        due("three touched", x.point(0, 4, 1), 0);
        // Not those that are one PLACE farther.
        x = blobOf("ddt");
        answers("farther", points(x, 0, 1), 1, 1, 0, 0, 0, 0, 1, 1);
    }

    private static void hasToBeACorner() {
        says("It has to be a CORNER, if it TOUCHES a SHARP one, or a HARD one and the OUTLINE turns there");
        answers("sharp: all its POINTS", points(blobOf("dsd"), 0, 2), 0, 1, 1, 0, 0, 1, 1, 0);
        answers("hard, no turn", points(blobOf("dhd"), 0, 2), 0, 0, 0, 0, 0, 0, 0, 0);
        answers("hard, turns", points(blobOf("hdh"), 0, 2), 1, 0, 0, 1, 1, 0, 0, 1);
        answers("plain turns", points(blobOf("d"), 0, 2), 0, 0, 0, 0);
        // A turn to the left at (1, 1), too.
        BlobCorners x = blobOf("h./dd");
        answers("POINTS", points(x, 0, 0), 0, 10, 11, 21, 22, 12, 2, 1);
        answers("hard, turn to the left", points(x, 0, 2), 1, 1, 1, 0, 0, 0, 0, 0);
        due("how many have to be", x.outline(0, 6), 3);
        due("none has to be", blobOf("dhd").outline(0, 6), 0);
        due("all have to be", blobOf("s").outline(0, 6), 4);
        due("none of another OUTLINE's", blobOf("s.d").outline(1, 6), 0);
        due("none of the next OUTLINE's", blobOf("d.s").outline(0, 6), 0);
    }

    private static void turnAtPointZero() {
        says("where an OUTLINE goes round from its last POINT to its first it turns, too");
        due("hard POINT 0", blobOf("h").point(0, 0, 2), 1);
        due("hard POINT 0 of a HOLE", blobOf("hdd/d.d/ddd").point(1, 0, 2), 1);
        // An OUTLINE begins at the top of its left side, where it always turns: from up to the right.
        BlobCorners x = blobOf(".d/hd");
        due("POINT 0", x.point(0, 0, 0), 1);
        answers("from up to the right", points(x, 0, 2), 1, 1, 0, 0, 0, 0, 0, 1);
        // A HOLE that comes down, goes left to its POINT 0 and down again.
        x = blobOf("dddd/dh.d/d..d/dddd");
        answers("POINTS of the HOLE", points(x, 1, 0), 12, 13, 23, 33, 32, 31, 21, 22);
        answers("from left to down", points(x, 1, 2), 1, 0, 0, 0, 0, 0, 1, 1);
    }

    // ---- 9 to 11: joined, penalty, REACH

    private static void joinedSentences() {
        neighbours();
        noMoreThanLeeway();
        greaterOfBothWays();
        noneBetweenHasToBe();
        anotherPlace();
        wayRoundPointZero();
        penaltyNumbers();
        pairRefusals();
        reachOneAtLeast();
        reachAtMost();
        reachWithoutGaps();
        reachRound();
    }

    private static void neighbours() {
        says("one step can always be");
        for (String text : new String[] {"d", "s", "t", "ts/hl", ".dd/d.d/ddd", "hhh/h.h/hhh"}) {
            BlobCorners x = blobOf(text);
            for (int o = 0; o < x.count(3); o++) {
                int length = x.outline(o, 0);
                for (int i = 0; i < length; i++) {
                    due(text + " from " + i, x.joined(o, i, (i + 1) % length), 1);
                    due(text + " penalty from " + i, x.penalty(o, i, (i + 1) % length), 0);
                    due(text + " reach of " + i, Math.min(1, x.point(o, i, 3)), 1);
                }
            }
        }
    }

    private static void noMoreThanLeeway() {
        says("twice it, without its sign, is no more than LEEWAY of K times the greater one");
        BlobCorners x = blobOf("d./dd");
        // (0,0) to (2,1): both between are 1, once above and once below: 2 = 1 * 2.
        due("plain, as much", x.joined(0, 0, 3), 1);
        // (1,0) to (2,1): (1,1) is 1: 2 > 1 * 1.
        due("plain, more", x.joined(0, 1, 3), 0);
        // (0,0) to (3,1) by (3,0): 3 is more than half of 3.
        due("plain, far more", blobOf("ddd").joined(0, 0, 4), 0);
        // The same: 6 = 2 * 3.
        due("loose, as much", blobOf("lll").joined(0, 0, 4), 1);
        // (0,0) to (3,2) by (3,0): 12 > 2 * 3.
        due("loose, more", blobOf("lll/lll").joined(0, 0, 5), 0);
        due("thin, on the line", blobOf("dtd").joined(0, 0, 3), 1);
        // As 'plain, as much', but (1,0) is THIN, or (1,1) is.
        due("thin, beside it", blobOf("t./dd").joined(0, 0, 3), 0);
        due("thin, beside it, below", blobOf("d./td").joined(0, 0, 3), 0);
        due("thin at the end alone", blobOf("d../ddt").joined(0, 0, 3), 1);
    }

    private static void greaterOfBothWays() {
        says("the greater one of how far J is from I to the right or left, and up or down");
        // Each of the four turned about: 2 far one way, 1 the other; twice 1 is as much as 2.
        due("right and down", blobOf("d./dd").joined(0, 0, 3), 1);
        // (2,0) to (1,2) by (2,1) and (1,1).
        due("down and left", blobOf("dd/d.").joined(0, 2, 5), 1);
        // (2,2) to (0,1) by (1,2) and (1,1).
        due("left and up", blobOf("dd/.d").joined(0, 4, 7), 1);
        // (0,2) to (1,0) by (0,1) and (1,1).
        due("up and right", blobOf(".d/dd").joined(0, 7, 2), 1);
    }

    private static void noneBetweenHasToBe() {
        says("if none between has to be a CORNER");
        BlobCorners x = blobOf("sdd");
        answers("have to be", points(x, 0, 2), 1, 1, 0, 0, 0, 0, 1, 1);
        due("over one on the line", x.joined(0, 0, 2), 0);
        due("from one that has to be", x.joined(0, 1, 3), 1);
        due("to one that has to be", x.joined(0, 4, 6), 1);
        due("over it", x.joined(0, 4, 7), 0);
        // As 'right and down', but (1,0) and (1,1) are turns of a HARD one.
        due("over hard turns", blobOf("h./dd").joined(0, 0, 3), 0);
        due("over hard ones without a turn", blobOf("hhh").joined(0, 0, 3), 1);
    }

    private static void anotherPlace() {
        says("if J is another place than I");
        BlobCorners x = blobOf(".dd/d.d/ddd");
        due("POINT 1", x.point(0, 1, 0), 11);
        due("POINT 5", x.point(0, 5, 0), 11);
        due("from 1 to 5", x.joined(0, 1, 5), 0);
        due("from 5 to 1", x.joined(0, 5, 1), 0);
        due("penalty from 1 to 5", x.penalty(0, 1, 5), NONE);
        due("penalty from 5 to 1", x.penalty(0, 5, 1), NONE);
        // Loose ones are lax enough for all else between.
        BlobCorners y = blobOf(".ll/l.l/lll");
        due("loose, from 1 to 5", y.joined(0, 1, 5), 0);
        due("loose, REACH of 1", y.point(0, 1, 3), 3);
    }

    private static void wayRoundPointZero() {
        says("if it is J that comes ahead, round by POINT 0; not as far as the LENGTH");
        BlobCorners x = blobOf("ddd");
        due("7 to 0", x.joined(0, 7, 0), 1);
        due("0 to 7, nearly all round", x.joined(0, 0, 7), 0);
        due("4 to 0", x.joined(0, 4, 0), 0);
        due("1 to 0, nearly all round", x.joined(0, 1, 0), 0);
        // All round a small one LOOSE dots are lax enough.
        x = blobOf("l");
        for (int from = 0; from < 4; from++) {
            for (int to = 0; to < 4; to++) {
                if (from != to) {
                    due("loose " + from + " to " + to, x.joined(0, from, to), 1);
                }
            }
        }
        // (0,2) to (1,0), over POINTS 0 and 1.
        x = blobOf(".dd/dd.");
        due("9 to 2", x.joined(0, 9, 2), 1);
        due("2 to 9", x.joined(0, 2, 9), 0);
        x = blobOf("s");
        due("over sharp ones round", x.joined(0, 3, 1), 0);
    }

    private static void penaltyNumbers() {
        says("the sum of the squares (not twice), divided by the square of how far they are");
        bits("1 + 1 by 5", blobOf("d./dd").penalty(0, 0, 3), 0.4f);
        bits("round POINT 0: 1 + 1 by 5", blobOf(".dd/dd.").penalty(0, 9, 2), 0.4f);
        BlobCorners x = blobOf("l");
        bits("1 by 2", x.penalty(0, 0, 2), 0.5f);
        bits("round POINT 0: 1 by 2", x.penalty(0, 3, 1), 0.5f);
        bits("2 by 1", x.penalty(0, 0, 3), 2.0f);
        bits("round POINT 0: 2 by 1", x.penalty(0, 2, 1), 2.0f);
        // (0,0) to (3,1): 1 + 4 + 9 by 10.
        bits("14 by 10", blobOf("lll").penalty(0, 0, 4), 1.4f);
        // (4,1) to (0,2): 1 + 4 + 9 + 1 by 17, divided but once.
        bits("15 by 17", blobOf("llll/l...").penalty(0, 5, 10), 15.0f / 17.0f);
        due("all on the line", blobOf("ddddd").penalty(0, 0, 5), 0);
        says("NONE, if they can't be JOINED");
        due("penalty(0, 0, 2)", blobOf("d").penalty(0, 0, 2), NONE);
        due("penalty(0, 3, 1)", blobOf("d").penalty(0, 3, 1), NONE);
    }

    private static void pairRefusals() {
        says("UNKNOWN: outline, from, to, or they are the same number");
        BlobCorners x = blobOf("d.dd");
        int[][] wrongOnes = {{2, 0, 1}, {-1, 0, 1}, {0, 4, 0}, {0, 0, 4}, {0, -1, 0}, {0, 0, -1}, {1, 6, 0},
            {1, 0, 6}, {0, 0, 0}, {0, 3, 3}, {1, 5, 5}, {MIN, 0, 1}, {MAX, 0, 1}, {0, MIN, 1}, {0, MAX, 1},
            {0, 1, MIN}, {0, 1, MAX}};
        for (int[] w : wrongOnes) {
            String numbers = "(" + w[0] + ", " + w[1] + ", " + w[2] + ")";
            refused(x, "joined" + numbers, UNKNOWN, () -> x.joined(w[0], w[1], w[2]));
            refused(x, "penalty" + numbers, UNKNOWN, () -> x.penalty(w[0], w[1], w[2]));
        }
        due("joined(1, 5, 0)", x.joined(1, 5, 0), 1);
        due("joined(0, 2, 3)", x.joined(0, 2, 3), 1);
    }

    private static void reachOneAtLeast() {
        says("REACH: from 1 step on; one step can always be");
        answers("plain", points(blobOf("d"), 0, 3), 1, 1, 1, 1);
        answers("sharp", points(blobOf("ss"), 0, 3), 1, 1, 1, 1, 1, 1);
    }

    private static void reachAtMost() {
        says("2 less than LENGTH at most");
        // 3 steps could be JOINED, too.
        BlobCorners x = blobOf("l");
        due("3 steps", x.joined(0, 0, 3), 1);
        answers("loose", points(x, 0, 3), 2, 2, 2, 2);
        x = blobOf("ll");
        due("5 steps", x.joined(0, 5, 4), 1);
        answers("two loose ones", points(x, 0, 3), 3, 3, 4, 3, 3, 4);
    }

    private static void reachWithoutGaps() {
        says("the farthest POINT so that it and all ahead of it, from 1 step on, can be JOINED with it");
        BlobCorners x = blobOf("d./dd");
        due("2 steps", x.joined(0, 0, 2), 0);
        due("3 steps", x.joined(0, 0, 3), 1);
        due("REACH", x.point(0, 0, 3), 1);
        answers("a row", points(blobOf("ddd"), 0, 3), 3, 2, 1, 1, 3, 2, 1, 1);
    }

    private static void reachRound() {
        says("REACH goes on round by POINT 0");
        BlobCorners x = blobOf("ll");
        for (int to = 0; to <= 3; to++) {
            due("5 to " + to, x.joined(0, 5, to), 1);
        }
        due("REACH of 5", x.point(0, 5, 3), 4);
        due("REACH of 4", x.point(0, 4, 3), 3);
        due("REACH over a plain side", blobOf("ddd/ddd/ddd").point(0, 9, 3), 3);
        answers("where POINT 0 is another", points(blobOf(".ll"), 0, 3), 3, 3, 4, 3, 3, 4);
        x = blobOf("d.ll");
        answers("where another OUTLINE is ahead", points(x, 1, 3), 3, 3, 4, 3, 3, 4);
        x = blobOf("ll.d");
        answers("where another OUTLINE comes then", points(x, 0, 3), 3, 3, 4, 3, 3, 4);
    }

    // ---- 8, 9, 12: the BEST POLYGON

    private static void polygonSentences() {
        threeAtLeast();
        allPointsAtMost();
        firstOneOnceAlone();
        leastPenalty();
        leastFirst();
        leastNumberAhead();
        roundByPointZero();
        singlePrecision();
        penaltyByItsBits();
        polygonArea();
        cornerRefusals();
        polygonsBesideOneAnother();
        polygonsBehindAChange();
    }

    private static void threeAtLeast() {
        says("A POLYGON is some of its POINTS, three at least");
        // 0 and 2 alone could be JOINED both ways.
        BlobCorners x = blobOf("l");
        due("0 to 2", x.joined(0, 0, 2), 1);
        due("2 to 0", x.joined(0, 2, 0), 1);
        answers("CORNERS", corners(x, 0), 0, 1, 2);
        answers("in it", points(x, 0, 4), 1, 1, 1, 0);
        due("CORNERS", x.count(5), 3);
    }

    private static void allPointsAtMost() {
        says("of which each can be JOINED with the next one, the last one with the first");
        answers("all are CORNERS", corners(blobOf("s"), 0), 0, 1, 2, 3);
        BlobCorners x = blobOf("sss/s.s/sss");
        due("CORNERS of the outer", x.outline(0, 2), 12);
        due("CORNERS of the HOLE", x.outline(1, 2), 4);
        due("the last of 12", x.corner(0, 11), 11);
        due("those that have to be", x.outline(0, 6), 12);
        due("all together", x.count(5), 16);
        answers("in it", points(x, 0, 4), 1, 1, 1, 1, 1, 1, 1, 1, 1, 1, 1, 1);
        // The greatest number of CORNERS: each POINT of 13 DOTS apart.
        due("most", blobOf("s.s.s/.s.s./s.s.s/.s.s./s.s.s").count(5), 52);
        BlobCorners comb = blobOf("s.s.s/s.s.s/s.s.s/s.s.s/sssss");
        due("CORNERS of a comb", comb.outline(0, 2), 36);
        due("the last one", comb.corner(0, 35), 35);
        due("its PENALTY", comb.outline(0, 3), 0);
    }

    private static void firstOneOnceAlone() {
        says("the SUM of F by 0 steps is 0; by more there are SUMS of greater POINTS alone, at last that of F");
        // 2 and 3 have to be CORNERS and could be JOINED both ways, so a third one has to come: it costs
        // 3 to 6: (1 + 1) by 1, and 6 to 2: 6 times 4, by 4. All three lie on one line.
        BlobCorners x = blobOf("l.l/lhl");
        answers("have to be", points(x, 0, 2), 0, 0, 1, 1, 0, 0, 0, 0, 0, 0, 0, 0);
        due("2 to 3", x.joined(0, 2, 3), 1);
        due("3 to 2", x.joined(0, 3, 2), 1);
        answers("CORNERS", corners(x, 0), 2, 3, 6);
        bits("3 to 6", x.penalty(0, 3, 6), 2.0f);
        bits("6 to 2", x.penalty(0, 6, 2), 6.0f);
        bits("PENALTY", x.outline(0, 3), 8.0f);
        due("AREA, the least of all", x.outline(0, 4), 0);
    }

    private static void leastPenalty() {
        says("of all such F that is taken of which that SUM is least");
        // With POINT 0 it is 1.4 at least; the straight lines 3 to 5 and 5 to 7 cost nothing.
        BlobCorners x = blobOf(".l/ll");
        answers("CORNERS", corners(x, 0), 3, 5, 7);
        answers("in it", points(x, 0, 4), 0, 0, 0, 1, 0, 1, 0, 1);
        bits("PENALTY", x.outline(0, 3), 1.0f);
    }

    private static void leastFirst() {
        says("of like ones the least F");
        // By 3 it would be 1.4 as well: the mirrored one.
        BlobCorners x = blobOf(".l./lll");
        answers("CORNERS", corners(x, 0), 2, 6, 9);
        bits("PENALTY", x.outline(0, 3), 1.4f);
        bits("2 to 6", x.penalty(0, 2, 6), 1.0f);
        due("6 to 9", x.penalty(0, 6, 9), 0);
        bits("9 to 2", x.penalty(0, 9, 2), 0.4f);
        bits("3 to 6", x.penalty(0, 3, 6), 0.4f);
        bits("9 to 3", x.penalty(0, 9, 3), 1.0f);
    }

    private static void leastNumberAhead() {
        says("the POINT ahead of each is always the one of the least number by which its SUM is as it is");
        // 0, 2, 3 and 0, 1, 3 come to 0.5 as well.
        answers("one loose", corners(blobOf("l"), 0), 0, 1, 2);
        // 0, 2, 3: 1 by (0,1) and (1,1) beside the line from (2,1) to (0,0); 0, 2, 5 is as much.
        BlobCorners x = blobOf("ll");
        bits("3 to 0", x.penalty(0, 3, 0), 1.0f);
        bits("2 to 5", x.penalty(0, 2, 5), 1.0f);
        due("5 to 0", x.penalty(0, 5, 0), 0);
        answers("two loose", corners(x, 0), 0, 2, 3);
    }

    private static void roundByPointZero() {
        says("at last that of F itself, by all U greater than F: the way goes round by POINT 0");
        BlobCorners x = blobOf(".dd/dd.");
        answers("CORNERS", corners(x, 0), 2, 4, 7, 9);
        answers("in it", points(x, 0, 4), 0, 0, 1, 0, 1, 0, 0, 1, 0, 1);
        bits("PENALTY", x.outline(0, 3), 0.8f);
        due("AREA", x.outline(0, 4), 8);
        // The same behind another OUTLINE.
        x = blobOf("d.dd/.dd.");
        answers("CORNERS of OUTLINE 1", corners(x, 1), 2, 4, 7, 9);
        answers("in OUTLINE 1", points(x, 1, 4), 0, 0, 1, 0, 1, 0, 0, 1, 0, 1);
        answers("CORNERS of OUTLINE 0", corners(x, 0), 0, 1, 2, 3);
    }

    private static void singlePrecision() {
        says("each such sum a fraction of single precision, too");
        BlobCorners x = blobOf("ddl/.dl");
        answers("CORNERS", corners(x, 0), 0, 4, 7);
        bits("0 to 4", x.penalty(0, 0, 4), 1.4f);
        bits("4 to 7", x.penalty(0, 4, 7), 1.0f);
        bits("7 to 0", x.penalty(0, 7, 0), 0.4f);
        // Reckoned with more digits it would be 2.8f, one bit less.
        bits("PENALTY", x.outline(0, 3), 1.4f + 1.0f + 0.4f);
        due("not rounded once alone", x.outline(0, 3), Float.floatToIntBits(2.8f) + 1);
        // 0, 4, 7 come to 14/10 + 1 + 2/5 here, too, and 3, 6, 9 to 1 + 2/5 + 14/10: alike but for the bits.
        x = blobOf("ldl/.dl");
        bits("0 to 4", x.penalty(0, 0, 4), 1.4f);
        bits("4 to 7", x.penalty(0, 4, 7), 1.0f);
        bits("7 to 0", x.penalty(0, 7, 0), 0.4f);
        bits("3 to 6", x.penalty(0, 3, 6), 1.0f);
        bits("6 to 9", x.penalty(0, 6, 9), 0.4f);
        bits("9 to 3", x.penalty(0, 9, 3), 1.4f);
        answers("the lesser by a bit", corners(x, 0), 3, 6, 9);
        bits("its PENALTY", x.outline(0, 3), 2.8f);
    }

    private static void penaltyByItsBits() {
        says("the bits of the PENALTY");
        due("0", blobOf("d").outline(0, 3), 0);
        due("0.4", blobOf("d./dd").outline(0, 3), 0x3ECCCCCD);
        due("0.5", blobOf("l").outline(0, 3), 0x3F000000);
        due("1", blobOf("ll").outline(0, 3), 0x3F800000);
        due("2", blobOf("ll/ll").outline(0, 3), 0x40000000);
        due("7", blobOf("lll/l.l/l..").outline(0, 3), 0x40E00000);
        bits("70 by 17", blobOf("llll/l..l").outline(0, 3), 70.0f / 17.0f);
    }

    private static void polygonArea() {
        says("AREA of a POLYGON: twice it, without its sign");
        due("the least", blobOf("l").outline(0, 4), 1);
        due("the greatest", blobOf(GREATEST).outline(0, 4), 50);
        due("of a HOLE", blobOf("ddd/d.d/ddd").outline(1, 4), 2);
        due("less than the OUTLINE's", blobOf("ll").outline(0, 4), 2);
        says("twice the area that the OUTLINE has");
        due("the least one", blobOf("l").outline(0, 5), 2);
        due("the greatest one", blobOf(GREATEST).outline(0, 5), 50);
        due("that of a gap is not in it", blobOf(".dd/d.d/ddd").outline(0, 5), 14);
    }

    private static void cornerRefusals() {
        says("UNKNOWN: outline, there are not so many");
        BlobCorners x = blobOf("l.d");
        due("the last of three", x.corner(0, 2), 2);
        refused(x, "corner(0, 3)", UNKNOWN, () -> x.corner(0, 3));
        due("the last of four", x.corner(1, 3), 3);
        refused(x, "corner(1, 4)", UNKNOWN, () -> x.corner(1, 4));
        refused(x, "corner(0, -1)", UNKNOWN, () -> x.corner(0, -1));
        refused(x, "corner(2, 0)", UNKNOWN, () -> x.corner(2, 0));
        refused(x, "corner(-1, 0)", UNKNOWN, () -> x.corner(-1, 0));
        refused(x, "corner(MIN, MAX)", UNKNOWN, () -> x.corner(MIN, MAX));
        refused(x, "corner(0, MAX)", UNKNOWN, () -> x.corner(0, MAX));
        refused(x, "corner(0, MIN)", UNKNOWN, () -> x.corner(0, MIN));
    }

    private static void polygonsBesideOneAnother() {
        says("each OUTLINE has its own BEST POLYGON, in whatever order they are asked for");
        // What has to be a CORNER of the one is none of the other.
        BlobCorners x = blobOf("s.ddd");
        answers("behind a sharp one", corners(x, 1), 0, 3, 4, 7);
        due("all together", x.count(5), 8);
        // The last one first, then the one ahead of it, then the last one again.
        BlobCorners y = blobOf("l.d.l");
        answers("OUTLINE 2", points(y, 2, 4), 1, 1, 1, 0);
        answers("OUTLINE 1", points(y, 1, 4), 1, 1, 1, 1);
        answers("OUTLINE 0", points(y, 0, 4), 1, 1, 1, 0);
        answers("OUTLINE 1 again", points(y, 1, 4), 1, 1, 1, 1);
        answers("OUTLINE 2 again", points(y, 2, 4), 1, 1, 1, 0);
        // All POINTS of the first one are CORNERS, so the next one's follow right behind them.
        BlobCorners both = blobOf("d.d");
        answers("OUTLINE 0 first", corners(both, 0), 0, 1, 2, 3);
        answers("OUTLINE 1 then", corners(both, 1), 0, 1, 2, 3);
        answers("OUTLINE 0 once more", corners(both, 0), 0, 1, 2, 3);
        // A shorter one behind a longer one, of which nothing is left.
        BlobCorners z = blobOf("l/d/./l");
        answers("the longer one", corners(z, 0), 0, 3, 4);
        bits("the longer one", z.outline(0, 3), 1.0f);
        answers("the shorter one", corners(z, 1), 0, 1, 2);
        bits("the shorter one", z.outline(1, 3), 0.5f);
    }

    private static void polygonsBehindAChange() {
        says("what was told of an OUTLINE is told anew when a DOT changes");
        BlobCorners x = blobOf("l");
        answers("loose", corners(x, 0), 0, 1, 2);
        bits("loose", x.outline(0, 3), 0.5f);
        due("all", x.count(5), 3);
        x.put(0, 0);
        answers("plain", corners(x, 0), 0, 1, 2, 3);
        answers("plain, in it", points(x, 0, 4), 1, 1, 1, 1);
        due("plain", x.outline(0, 3), 0);
        due("plain, AREA", x.outline(0, 4), 2);
        due("plain, all", x.count(5), 4);
        due("corner(0, 3)", x.corner(0, 3), 3);
        x.put(0, 4);
        due("corner(0, 2), asked first", x.corner(0, 2), 2);
        x.put(0, 0);
        due("point(0, 3, 4), asked first", x.point(0, 3, 4), 1);
        x.put(0, 4);
        due("outline(0, 4), asked first", x.outline(0, 4), 1);
        answers("loose once more, in it", points(x, 0, 4), 1, 1, 1, 0);
        BlobCorners y = blobOf("ll/ll");
        answers("four", points(y, 0, 4), 1, 0, 1, 0, 0, 1, 0, 0);
        y.take(0);
        answers("three", points(y, 0, 4), 0, 0, 0, 1, 0, 1, 0, 1);
        y.turn();
        answers("turned", points(y, 0, 0), 0, 10, 11, 21, 22, 12, 2, 1);
        y.mirror();
        answers("mirrored", points(y, 0, 0), 1, 11, 10, 20, 21, 22, 12, 2);
    }

    // ---- 13 to 16: put, take, turn, mirror

    private static void doneSentences() {
        putPlaces();
        putOnAnother();
        takeDown();
        takeTheOnlyOne();
        turnWidthAndHeight();
        turnFourTimes();
        mirrorTwice();
    }

    private static void putPlaces() {
        says("put: UNKNOWN: place; OUTSIDE: kind (0 to 4)");
        BlobCorners x = blobOf("d../...");
        refused(x, "put(-1, 0)", UNKNOWN, () -> x.put(-1, 0));
        refused(x, "put(6, 0)", UNKNOWN, () -> x.put(6, 0));
        refused(x, "put(MIN, 0)", UNKNOWN, () -> x.put(MIN, 0));
        refused(x, "put(MAX, 0)", UNKNOWN, () -> x.put(MAX, 0));
        refused(x, "put(6, 5)", UNKNOWN, () -> x.put(6, 5));
        refused(x, "put(-1, -1)", UNKNOWN, () -> x.put(-1, -1));
        refused(x, "put(5, -1)", OUTSIDE, () -> x.put(5, -1));
        refused(x, "put(5, 5)", OUTSIDE, () -> x.put(5, 5));
        refused(x, "put(0, MIN)", OUTSIDE, () -> x.put(0, MIN));
        refused(x, "put(0, MAX)", OUTSIDE, () -> x.put(0, MAX));
        due("put(5, 4)", x.put(5, 4), 2);
        due("put(0, 0)", x.put(0, 0), 2);
        due("put(1, 2)", x.put(1, 2), 2);
        due("put(2, 3)", x.put(2, 3), 1);
        answers("KINDS", kinds(x), 0, 2, 3, NONE, NONE, 4);
    }

    private static void putOnAnother() {
        says("another one that is there is gone");
        BlobCorners x = blobOf("ds");
        due("put(1, 4)", x.put(1, 4), 1);
        due("KIND", x.dot(1, 0), 4);
        due("DOTS", x.count(0), 2);
        due("put(0, 1), the full page", x.put(0, 1), 1);
        due("DOTS then", x.count(0), 2);
        // The last gap of all.
        BlobCorners y = blobOf("ddddd/ddddd/dd.dd/ddddd/ddddd");
        due("OUTLINES", y.count(3), 2);
        due("put(12, 0)", y.put(12, 0), 1);
        due("all are there", y.count(0), 25);
    }

    private static void takeDown() {
        says("take: UNKNOWN: place, or there is no DOT");
        BlobCorners x = blobOf("ddd/...");
        refused(x, "take(-1)", UNKNOWN, () -> x.take(-1));
        refused(x, "take(6)", UNKNOWN, () -> x.take(6));
        refused(x, "take(3)", UNKNOWN, () -> x.take(3));
        refused(x, "take(MIN)", UNKNOWN, () -> x.take(MIN));
        refused(x, "take(MAX)", UNKNOWN, () -> x.take(MAX));
        due("take(1)", x.take(1), 2);
        refused(x, "take(1) again", UNKNOWN, () -> x.take(1));
        due("DOTS", x.count(0), 2);
        due("width stays", x.count(1), 3);
        due("height stays", x.count(2), 2);
    }

    private static void takeTheOnlyOne() {
        says("STATE: it is the only one");
        BlobCorners x = blobOf("h");
        refused(x, "take(0)", STATE, () -> x.take(0));
        refused(x, "take(1)", UNKNOWN, () -> x.take(1));
        BlobCorners y = blobOf("ds.");
        due("take(0), one of two", y.take(0), 1);
        refused(y, "take(1), the only one", STATE, () -> y.take(1));
        refused(y, "take(0), none beside it", UNKNOWN, () -> y.take(0));
        due("put(2, 0)", y.put(2, 0), 1);
        due("take(1) then", y.take(1), 1);
        answers("KINDS", kinds(y), NONE, NONE, 0);
    }

    private static void turnWidthAndHeight() {
        says("All is turned by a quarter to the right (width and height change about)");
        BlobCorners x = blobOf("dhstl");
        due("turn()", x.turn(), x.count(5));
        due("width", x.count(1), 1);
        due("height", x.count(2), 5);
        answers("a row is a column then", kinds(x), 0, 1, 2, 3, 4);
        x.turn();
        due("width then", x.count(1), 5);
        answers("and a row from its end", kinds(x), 4, 3, 2, 1, 0);
        BlobCorners y = blobOf("dh./stl");
        y.turn();
        answers("three by two", kinds(y), 2, 0, 3, 1, 4, NONE);
        BlobCorners z = blobOf("d...h/...../...../...../s...t");
        z.turn();
        due("upper left", z.dot(0, 0), 2);
        due("upper right", z.dot(4, 0), 0);
        due("lower left", z.dot(20, 0), 3);
        due("lower right", z.dot(24, 0), 1);
        due("of one DOT", blobOf("l").turn(), 3);
    }

    private static void turnFourTimes() {
        says("turned four times all is as it was");
        BlobCorners x = blobOf("dh./stl/.d.");
        long before = x.digest();
        for (int i = 0; i < 4; i++) {
            x.turn();
        }
        due("digest()", x.digest(), before);
        says("CORNERS of all OUTLINES, together");
        due("of two and a HOLE", blobOf("ddd.l/d.d../ddd..").turn(), 11);
        due("mirrored", blobOf("ddd.l/d.d../ddd..").mirror(), 11);
    }

    private static void mirrorTwice() {
        says("All is mirrored, left and right");
        BlobCorners x = blobOf("dh./stl");
        long before = x.digest();
        due("mirror()", x.mirror(), x.count(5));
        answers("KINDS", kinds(x), NONE, 1, 0, 4, 3, 2);
        due("width", x.count(1), 3);
        due("height", x.count(2), 2);
        x.mirror();
        due("digest() of twice", x.digest(), before);
        BlobCorners y = blobOf("d/h/s");
        y.mirror();
        answers("a column stays", kinds(y), 0, 1, 2);
        BlobCorners z = blobOf("dhstl");
        z.mirror();
        answers("a row from its end", kinds(z), 4, 3, 2, 1, 0);
        due("of one DOT", blobOf("l").mirror(), 3);
    }

    // ---- 17, 18: racks

    private static void rackSentences() {
        rackTakesItsKind();
        rackOfThree();
        rackRefusals();
        rackedRefusals();
        racksEmptyWhenADotChanges();
        racksStayElse();
    }

    private static void rackTakesItsKind() {
        says("takes DOTS that are of its KIND or of one that is that, too; NONE: it is not taken");
        BlobCorners x = blobOf("dhstl");
        String[] takes = {"01234", "12", "2", "3", "4"};
        for (int kind = 0; kind <= 4; kind++) {
            for (int place = 0; place < 5; place++) {
                x.put(0, 0);
                long before = x.digest();
                boolean fits = takes[kind].indexOf('0' + place) >= 0;
                String call = "rack(" + place + ", " + kind + ")";
                due(call, x.rack(place, kind), fits ? 1 : NONE);
                due("racked behind " + call, x.racked(kind, 0), fits ? place : NONE);
                due("on all RACKS behind " + call, x.count(6), fits ? 1 : 0);
                if (!fits) {
                    due("digest() behind " + call, x.digest(), before);
                }
            }
        }
    }

    private static void rackOfThree() {
        says("has three places; FULL: three are there");
        BlobCorners x = blobOf("lllls");
        for (int i = 0; i < 3; i++) {
            due("rack(" + i + ", 4)", x.rack(i, 4), i + 1);
        }
        refused(x, "rack(3, 4)", FULL, () -> x.rack(3, 4));
        for (int i = 0; i < 3; i++) {
            due("racked(4, " + i + ")", x.racked(4, i), i);
        }
        says("each KIND has its own RACK");
        due("rack(3, 0)", x.rack(3, 0), 1);
        due("rack(4, 2)", x.rack(4, 2), 1);
        due("rack(4, 1)", x.rack(4, 1), 1);
        due("rack(4, 0)", x.rack(4, 0), 2);
        due("rack(0, 0)", x.rack(0, 0), 3);
        refused(x, "rack(1, 0)", FULL, () -> x.rack(1, 0));
        due("on all RACKS", x.count(6), 8);
        due("racked(0, 0)", x.racked(0, 0), 3);
        due("racked(0, 2)", x.racked(0, 2), 0);
        due("racked(1, 0)", x.racked(1, 0), 4);
        due("racked(1, 1)", x.racked(1, 1), NONE);
        due("racked(3, 0)", x.racked(3, 0), NONE);
        allRacksFull();
    }

    private static void allRacksFull() {
        BlobCorners x = blobOf("dhstl");
        for (int kind = 0; kind <= 4; kind++) {
            for (int i = 1; i <= 3; i++) {
                due("rack of " + kind + ", " + i, x.rack(kind, kind), i);
            }
        }
        due("on all RACKS", x.count(6), 15);
        for (int kind = 0; kind <= 4; kind++) {
            int k = kind;
            refused(x, "a fourth of " + kind, FULL, () -> x.rack(k, k));
        }
    }

    private static void rackRefusals() {
        says("rack: UNKNOWN: place, or there is no DOT; OUTSIDE: kind (0 to 4); FULL: three are there");
        BlobCorners x = blobOf("dd.");
        refused(x, "rack(-1, 0)", UNKNOWN, () -> x.rack(-1, 0));
        refused(x, "rack(3, 0)", UNKNOWN, () -> x.rack(3, 0));
        refused(x, "rack(2, 0)", UNKNOWN, () -> x.rack(2, 0));
        refused(x, "rack(2, 5)", UNKNOWN, () -> x.rack(2, 5));
        refused(x, "rack(MAX, MIN)", UNKNOWN, () -> x.rack(MAX, MIN));
        refused(x, "rack(0, -1)", OUTSIDE, () -> x.rack(0, -1));
        refused(x, "rack(0, 5)", OUTSIDE, () -> x.rack(0, 5));
        refused(x, "rack(0, MAX)", OUTSIDE, () -> x.rack(0, MAX));
        x.rack(0, 0);
        x.rack(1, 0);
        x.rack(0, 0);
        refused(x, "rack(3, 0), full", UNKNOWN, () -> x.rack(3, 0));
        refused(x, "rack(2, 0), full", UNKNOWN, () -> x.rack(2, 0));
        refused(x, "rack(0, 5), full", OUTSIDE, () -> x.rack(0, 5));
        refused(x, "rack(1, 0), full", FULL, () -> x.rack(1, 0));
    }

    private static void rackedRefusals() {
        says("a place (0 to 2); NONE; OUTSIDE: kind (0 to 4), number");
        BlobCorners x = blobOf("l");
        due("rack(0, 4)", x.rack(0, 4), 1);
        due("racked(4, 0)", x.racked(4, 0), 0);
        due("racked(4, 1)", x.racked(4, 1), NONE);
        due("racked(4, 2)", x.racked(4, 2), NONE);
        due("racked(0, 0)", x.racked(0, 0), NONE);
        refused(x, "racked(5, 0)", OUTSIDE, () -> x.racked(5, 0));
        refused(x, "racked(-1, 0)", OUTSIDE, () -> x.racked(-1, 0));
        refused(x, "racked(0, 3)", OUTSIDE, () -> x.racked(0, 3));
        refused(x, "racked(4, -1)", OUTSIDE, () -> x.racked(4, -1));
        refused(x, "racked(MIN, MAX)", OUTSIDE, () -> x.racked(MIN, MAX));
        refused(x, "racked(0, MIN)", OUTSIDE, () -> x.racked(0, MIN));
    }

    private static void emptied(BlobCorners x, String what) {
        due("DOTS on all RACKS behind " + what, x.count(6), 0);
        due("racked(0, 0) behind " + what, x.racked(0, 0), NONE);
        due("rack(4, 0) behind " + what, x.rack(4, 0), 1);
        due("rack(4, 4) behind " + what, x.rack(4, 4), 1);
    }

    private static void racksEmptyWhenADotChanges() {
        says("all are empty when a DOT changes");
        BlobCorners x = blobOf("ddd/.l.");
        x.image();
        x.rack(4, 4);
        x.rack(0, 0);
        x.put(3, 0);
        emptied(x, "put on none");
        x.put(3, 1);
        emptied(x, "put on another");
        x.take(3);
        emptied(x, "take");
        // Mirrored, and turned four times, the DOTS are where they were.
        x.mirror();
        emptied(x, "mirror");
        x.turn();
        due("DOTS on all RACKS behind turn", x.count(6), 0);
        due("racked(0, 0) behind turn", x.racked(0, 0), NONE);
        x.turn();
        x.turn();
        x.turn();
        says("RACKS are empty then: when it goes on from the IMAGE");
        due("rack(0, 0)", x.rack(0, 0), 1);
        due("rack(4, 4)", x.rack(4, 4), 1);
        x.restore();
        emptied(x, "restore");
    }

    private static void racksStayElse() {
        says("the RACKS stay when no DOT changes");
        BlobCorners x = blobOf("dd.");
        x.rack(0, 0);
        x.rack(1, 0);
        x.see(0, 0, true);
        x.forget();
        x.weight();
        x.drawn(3, 7, 0);
        x.digest();
        x.letter('d');
        x.blank();
        x.blob();
        x.put(0, 5);
        x.take(2);
        x.restore();
        due("DOTS on all RACKS", x.count(6), 2);
        due("racked(0, 1)", x.racked(0, 1), 1);
    }

    // ---- 19: weight

    private static void weightSentences() {
        weightOfOne();
        weightOfLikeOnes();
        weightFiveTimes();
        weightChangesNothing();
    }

    private static void weightOfOne() {
        says("none, if there is but one DOT");
        BlobCorners x = blobOf("..d");
        due("weight()", x.weight(), NONE);
        due("how often", x.count(10), 1);
        x.put(0, 0);
        due("weight() of two", x.weight(), 0);
    }

    private static void weightOfLikeOnes() {
        says("without which DOT there are fewest CORNERS: of like ones the least PLACE");
        due("two", blobOf(".dd").weight(), 1);
        due("nine", blobOf("ddd/ddd/ddd").weight(), 0);
        // Without the last one 3, else 4 and 3.
        due("the last one", blobOf("l.d").weight(), 2);
        due("the first one", blobOf("d.l").weight(), 0);
        // Without the first or the last one 6, without the sharp one between 4 and 4.
        due("a sharp one between", blobOf("dsd").weight(), 0);
        due("each KIND is weighed", blobOf("d.s.l").weight(), 0);
        due("the last PLACE of all", blobOf("l..../...../...../...../....s").weight(), 24);
    }

    private static void weightFiveTimes() {
        says("STATE: that was asked for 5 times");
        BlobCorners x = new BlobCorners();
        refused(x, "weight() without BLOB", STATE, x::weight);
        write(x, "dd");
        x.blob();
        for (int i = 1; i <= 5; i++) {
            due("weight " + i, x.weight(), 0);
            due("how often " + i, x.count(10), i);
        }
        refused(x, "weight 6", STATE, x::weight);
        due("how often then", x.count(10), 5);
        refused(x, "weight 7", STATE, x::weight);
    }

    private static void weightChangesNothing() {
        says("what would be: nothing is changed but how often it was asked for");
        BlobCorners x = blobOf("dhs/tl.");
        x.rack(0, 0);
        x.see(1, 1, true);
        x.outline(0, 3);
        int[] before = points(x, 0, 4);
        x.weight();
        answers("in the BEST POLYGON", points(x, 0, 4), before);
        answers("KINDS", kinds(x), 0, 1, 2, 3, 4, NONE);
        due("DOTS on all RACKS", x.count(6), 1);
        due("SEEN", x.count(7), 1);
    }

    // ---- 6, 20, 21: what is seen

    private static void seenSentences() {
        seeRefusals();
        seeSixAtMost();
        forgetAll();
        sortsOfEach();
        sortsOfOnePlaceAlone();
        askOfLikeOnes();
        askOfNone();
        seenStaysAtItsPlace();
    }

    private static void seeRefusals() {
        says("see: UNKNOWN: place; OUTSIDE: what (0 to 3); FULL");
        BlobCorners x = blobOf("d.");
        refused(x, "see(-1, 0, true)", UNKNOWN, () -> x.see(-1, 0, true));
        refused(x, "see(2, 0, true)", UNKNOWN, () -> x.see(2, 0, true));
        refused(x, "see(2, 4, true)", UNKNOWN, () -> x.see(2, 4, true));
        refused(x, "see(MIN, MIN, false)", UNKNOWN, () -> x.see(MIN, MIN, false));
        refused(x, "see(MAX, 0, false)", UNKNOWN, () -> x.see(MAX, 0, false));
        refused(x, "see(0, -1, true)", OUTSIDE, () -> x.see(0, -1, true));
        refused(x, "see(0, 4, true)", OUTSIDE, () -> x.see(0, 4, true));
        refused(x, "see(1, MAX, false)", OUTSIDE, () -> x.see(1, MAX, false));
        due("see(0, 0, true)", x.see(0, 0, true), 1);
        due("see(1, 3, false)", x.see(1, 3, false), 2);
    }

    private static void seeSixAtMost() {
        says("SEEN (6 at most)");
        BlobCorners x = blobOf("dd");
        for (int i = 1; i <= 6; i++) {
            due("see " + i, x.see(i % 2, 0, true), i);
        }
        refused(x, "see 7", FULL, () -> x.see(0, 3, false));
        refused(x, "see 7, what is wrong", OUTSIDE, () -> x.see(0, 4, false));
        refused(x, "see 7, place is wrong", UNKNOWN, () -> x.see(2, 4, false));
        due("how much", x.count(7), 6);
        due("forget()", x.forget(), 6);
        due("see then", x.see(0, 3, false), 1);
        BlobCorners most = blobOf(GREATEST);
        due("see(24, 3, true)", most.see(24, 3, true), 1);
        refused(most, "see(25, 3, true)", UNKNOWN, () -> most.see(25, 3, true));
    }

    private static void forgetAll() {
        says("Nothing is SEEN any more: how much was");
        BlobCorners x = blobOf("d");
        due("forget() of none", x.forget(), 0);
        x.see(0, 1, true);
        due("SORTS", x.dot(0, 1), 4);
        due("forget() of one", x.forget(), 1);
        due("SORTS then", x.dot(0, 1), 31);
        due("ASK then", x.dot(0, 2), 0);
        due("forget() again", x.forget(), 0);
        x.see(0, 0, false);
        due("the old ones don't come back", x.dot(0, 1), 25);
    }

    private static void sorts(int what, boolean was, int want) {
        BlobCorners x = blobOf("d");
        x.see(0, what, was);
        due("SORTS by " + what + " " + was, x.dot(0, 1), want);
    }

    private static void sortsOfEach() {
        says("a THIN one is never 2, a LOOSE one alone is 3; 0: HARD, SHARP ones; 1: SHARP ones");
        sorts(0, true, 2 + 4);
        sorts(0, false, 1 + 8 + 16);
        sorts(1, true, 4);
        sorts(1, false, 1 + 2 + 8 + 16);
        sorts(2, true, 1 + 2 + 4 + 16);
        sorts(2, false, 8);
        sorts(3, true, 16);
        sorts(3, false, 1 + 2 + 4 + 8);
        says("so that all that is SEEN of it is so");
        BlobCorners x = blobOf("d");
        x.see(0, 0, false);
        x.see(0, 2, true);
        due("plain or loose", x.dot(0, 1), 17);
        x.see(0, 3, false);
        due("plain", x.dot(0, 1), 1);
        x.see(0, 1, false);
        due("plain still", x.dot(0, 1), 1);
        x.see(0, 2, true);
        due("plain by the fifth", x.dot(0, 1), 1);
        x.see(0, 0, true);
        due("none by the sixth", x.dot(0, 1), 0);
    }

    private static void sortsOfOnePlaceAlone() {
        says("SEEN of a DOT: of another PLACE it tells nothing");
        BlobCorners x = blobOf("d.d");
        x.see(2, 3, true);
        x.see(1, 1, true);
        due("SORTS of 0", x.dot(0, 1), 31);
        due("SORTS of 1, without DOT", x.dot(1, 1), 4);
        due("SORTS of 2", x.dot(2, 1), 16);
    }

    private static int askFor(int... seen) {
        BlobCorners x = blobOf("d");
        for (int i = 0; i < seen.length; i += 2) {
            x.see(0, seen[i], seen[i + 1] == 1);
        }
        return x.dot(0, 2);
    }

    private static void askOfLikeOnes() {
        says("so that fewest of these are left at worst: of like ones the least");
        due("of all five", askFor(), 0);
        due("of HARD, SHARP", askFor(0, 1), 1);
        due("of plain, THIN, LOOSE: 2 as well as 3", askFor(0, 0), 2);
        due("of plain, LOOSE", askFor(0, 0, 2, 1), 3);
        due("of plain, THIN: 2", askFor(0, 0, 3, 0), 2);
        due("of plain, HARD: 0", askFor(1, 0, 2, 1, 3, 0), 0);
        due("of plain, HARD, THIN, LOOSE: 0, 2, 3", askFor(1, 0), 0);
        due("of one: all are alike", askFor(3, 1), 0);
        due("of THIN alone", askFor(2, 0), 0);
        due("of SHARP alone", askFor(1, 1), 0);
    }

    private static void askOfNone() {
        says("none, if there are none");
        due("none is 2 and not 2", askFor(2, 1, 2, 0), NONE);
        due("none is 0 and 3", askFor(0, 1, 3, 1), NONE);
        BlobCorners x = blobOf("d.");
        x.see(1, 0, true);
        x.see(1, 0, false);
        due("SORTS", x.dot(1, 1), 0);
        due("ASK", x.dot(1, 2), NONE);
        due("ASK of the other", x.dot(0, 2), 0);
    }

    private static void seenStaysAtItsPlace() {
        says("what is SEEN is of a PLACE: it stays when a DOT changes");
        BlobCorners x = blobOf("d.");
        x.see(0, 3, true);
        x.put(1, 0);
        x.put(0, 1);
        x.take(0);
        due("SEEN", x.count(7), 1);
        due("SORTS of 0", x.dot(0, 1), 16);
        due("SORTS of 1", x.dot(1, 1), 31);
        x.turn();
        due("SORTS of 0, turned", x.dot(0, 1), 16);
        x.turn();
        x.mirror();
        due("SORTS of 0, mirrored", x.dot(0, 1), 16);
        due("SORTS of 1, mirrored", x.dot(1, 1), 31);
        due("SEEN then", x.count(7), 1);
    }

    // ---- 22: drawn

    private static void drawnSentences() {
        drawnRefusals();
        drawnSeeds();
        drawnNothing();
        drawnAll();
        drawnAsRead();
        drawnChangesNothing();
    }

    private static void drawnRefusals() {
        says("OUTSIDE: times (1 to 3), seed (0 at least), what");
        BlobCorners x = new BlobCorners();
        refused(x, "drawn(0, 1, 0)", OUTSIDE, () -> x.drawn(0, 1, 0));
        refused(x, "drawn(4, 1, 0)", OUTSIDE, () -> x.drawn(4, 1, 0));
        refused(x, "drawn(-1, 1, 0)", OUTSIDE, () -> x.drawn(-1, 1, 0));
        refused(x, "drawn(MIN, 1, 0)", OUTSIDE, () -> x.drawn(MIN, 1, 0));
        refused(x, "drawn(MAX, 1, 0)", OUTSIDE, () -> x.drawn(MAX, 1, 0));
        refused(x, "drawn(1, -1, 0)", OUTSIDE, () -> x.drawn(1, -1, 0));
        refused(x, "drawn(1, MIN, 0)", OUTSIDE, () -> x.drawn(1, MIN, 0));
        refused(x, "drawn(1, 1, -1)", OUTSIDE, () -> x.drawn(1, 1, -1));
        refused(x, "drawn(1, 1, 3)", OUTSIDE, () -> x.drawn(1, 1, 3));
        refused(x, "drawn(1, 1, MIN)", OUTSIDE, () -> x.drawn(1, 1, MIN));
        refused(x, "drawn(1, 1, MAX)", OUTSIDE, () -> x.drawn(1, 1, MAX));
        refused(x, "drawn(0, -1, 3)", OUTSIDE, () -> x.drawn(0, -1, 3));
    }

    private static long nextSeed(long seed) {
        return (1103515245L * seed + 12345L) % 2147483648L;
    }

    private static void drawnSeeds() {
        says("the next SEED each time: 1103515245 times it and 12345, its rest by 2 to the 31");
        BlobCorners x = new BlobCorners();
        for (int start : new int[] {0, 1, MAX, MAX - 1, 1 << 30, 12345}) {
            long seed = start;
            for (int times = 1; times <= 3; times++) {
                for (int i = 0; i < 12; i++) {
                    seed = nextSeed(seed);
                }
                due("drawn(" + times + ", " + start + ", 2)", x.drawn(times, start, 2), seed);
            }
        }
    }

    private static void drawnNothing() {
        says("at each PLACE no DOT by a DRAW of 3 that is 0: at all twelve of them");
        BlobCorners x = new BlobCorners();
        due("CORNERS", x.drawn(1, 56647, 0), 0);
        due("OUTLINES", x.drawn(1, 56647, 1), 0);
        due("SEED", x.drawn(1, 56647, 2), 544829275);
        due("CORNERS with the next one", x.drawn(2, 56647, 0), x.drawn(1, 544829275, 0));
        due("OUTLINES with the next one", x.drawn(2, 56647, 1), x.drawn(1, 544829275, 1));
    }

    private static void drawnAll() {
        says("else a plain one: at all twelve of them");
        BlobCorners x = new BlobCorners();
        due("CORNERS", x.drawn(1, 207, 0), 4);
        due("OUTLINES", x.drawn(1, 207, 1), 1);
        due("SEED", x.drawn(1, 207, 2), 1259388003);
    }

    /** What a drawn BLOB is, reckoned here and read by another object. */
    private static int readDrawn(long start, int times, int what) {
        long seed = start;
        int sum = 0;
        for (int t = 0; t < times; t++) {
            StringBuilder text = new StringBuilder();
            for (int i = 0; i < 12; i++) {
                seed = nextSeed(seed);
                text.append(i > 0 && i % 4 == 0 ? "/" : "").append(seed / 65536 % 3 == 0 ? '.' : 'd');
            }
            sum += blobOf(text.toString()).count(what);
        }
        return sum;
    }

    private static void drawnAsRead() {
        says("so many BLOBS of three ROWS of four: CORNERS of all OUTLINES, all together; how many OUTLINES");
        BlobCorners x = new BlobCorners();
        for (int seed : new int[] {0, 1, 2, 3, 4, 5, 1071, 1072, 99999, MAX}) {
            for (int times = 1; times <= 3; times++) {
                String call = "drawn(" + times + ", " + seed;
                due(call + ", 0)", x.drawn(times, seed, 0), readDrawn(seed, times, 5));
                due(call + ", 1)", x.drawn(times, seed, 1), readDrawn(seed, times, 3));
            }
        }
    }

    private static void drawnChangesNothing() {
        says("as they would be");
        BlobCorners x = blobOf("dhs/tl.");
        x.rack(0, 0);
        x.see(0, 0, true);
        x.image();
        write(x, "d.");
        long before = x.digest();
        for (int what = 0; what <= 2; what++) {
            x.drawn(3, 5, what);
        }
        due("digest()", x.digest(), before);
        due("restore()", x.restore(), 5);
        answers("KINDS", kinds(x), 0, 1, 2, 3, 4, NONE);
    }

    // ---- 23, 24: image, restore

    private static void imageSentences() {
        imageOfNone();
        imageIsOne();
        imageKeepsBlobAndSeen();
        imageKeepsNoMore();
        imageOfAnotherBlob();
    }

    private static void imageOfNone() {
        says("STATE: no BLOB; none was kept");
        BlobCorners x = new BlobCorners();
        refused(x, "image()", STATE, x::image);
        write(x, "d");
        x.blob();
        refused(x, "restore()", STATE, x::restore);
        due("image()", x.image(), 1);
        due("restore()", x.restore(), 1);
        due("restore() again", x.restore(), 1);
    }

    private static void imageIsOne() {
        says("An IMAGE is kept (one; the latest)");
        BlobCorners x = blobOf("ddd");
        x.image();
        x.take(0);
        due("image() of two", x.image(), 2);
        x.take(1);
        due("restore()", x.restore(), 2);
        answers("KINDS", kinds(x), NONE, 0, 0);
        x.take(1);
        due("restore() once more", x.restore(), 2);
    }

    private static void imageKeepsBlobAndSeen() {
        says("An IMAGE keeps the BLOB, SEEN");
        BlobCorners x = blobOf("dh./stl");
        x.see(0, 0, true);
        x.see(5, 3, true);
        x.see(1, 2, false);
        long before = x.digest();
        due("image()", x.image(), 5);
        due("image() changes nothing", x.digest(), before);
        x.forget();
        for (int i = 0; i < 6; i++) {
            x.see(2, 1, i % 2 == 0);
        }
        x.turn();
        x.put(0, 4);
        x.take(1);
        x.count(5);
        x.outline(0, 3);
        due("restore()", x.restore(), 5);
        due("digest()", x.digest(), before);
        due("width", x.count(1), 3);
        due("height", x.count(2), 2);
        due("SORTS of 0", x.dot(0, 1), 6);
        due("SORTS of 1", x.dot(1, 1), 8);
        due("SORTS of 2", x.dot(2, 1), 31);
        due("SORTS of 5", x.dot(5, 1), 16);
        due("SEEN", x.count(7), 3);
        imageOfNothingSeen();
    }

    private static void imageOfNothingSeen() {
        BlobCorners x = blobOf("d");
        x.image();
        x.see(0, 0, true);
        x.restore();
        due("nothing was SEEN", x.count(7), 0);
        due("see() then", x.see(0, 1, true), 1);
        x.restore();
        due("the IMAGE is as it was", x.count(7), 0);
        for (int i = 0; i < 6; i++) {
            x.see(0, 0, true);
        }
        x.image();
        x.forget();
        x.restore();
        refused(x, "see() of a full one", FULL, () -> x.see(0, 0, true));
    }

    private static void imageKeepsNoMore() {
        says("THE PAGE, how often a BLOB was read and how often weight() was asked for are not of the IMAGE");
        BlobCorners x = blobOf("dd");
        x.image();
        x.weight();
        write(x, "x");
        x.restore();
        due("letters", x.count(8), 1);
        due("reads", x.count(9), 1);
        due("weights", x.count(10), 1);
    }

    private static void imageOfAnotherBlob() {
        says("STATE: there is another BLOB since");
        BlobCorners x = blobOf("dd");
        x.image();
        write(x, "dd");
        x.blob();
        refused(x, "restore(), the same text", STATE, x::restore);
        x.image();
        due("restore() of the new one", x.restore(), 2);
        write(x, "dx");
        refused(x, "blob() that is none", STATE, x::blob);
        due("restore() behind it", x.restore(), 2);
        x.turn();
        x.mirror();
        x.put(0, 4);
        x.take(1);
        due("restore() behind changes", x.restore(), 2);
    }

    // ---- 25, 26: count, digest, the end

    private static void allSentences() {
        countRefusals();
        countOfAll();
        digestOfLetters();
        digestInOrder();
        calls512();
    }

    private static void countRefusals() {
        says("How many: 0 to 10; OUTSIDE");
        BlobCorners x = blobOf("d");
        for (int what : new int[] {-1, 11, 12, MIN, MAX}) {
            refused(x, "count(" + what + ")", OUTSIDE, () -> x.count(what));
        }
        due("count(0)", x.count(0), 1);
        due("count(10)", x.count(10), 0);
    }

    private static void countOfAll() {
        says("count: each of them");
        BlobCorners x = blobOf("ddd.l/d.d../ddd..");
        write(x, "d/");
        x.blob();
        x.rack(0, 0);
        x.rack(4, 4);
        x.rack(4, 0);
        x.see(0, 0, true);
        x.see(4, 0, true);
        x.weight();
        int[] want = {9, 5, 3, 3, 1, 11, 3, 2, 2, 1, 1};
        for (int what = 0; what <= 10; what++) {
            due("count(" + what + ")", x.count(what), want[what]);
        }
    }

    private static void digestOfLetters() {
        says("digest: letters of THE PAGE; none and as many as there can be");
        BlobCorners x = new BlobCorners();
        for (int size = 0; size <= 32; size++) {
            long h = 1439;
            for (int i = 0; i < 15; i++) {
                h = 31 * h - 1;
            }
            for (int i = 0; i < size; i++) {
                h = 31 * h + (126 - i);
            }
            for (int what = 0; what <= 10; what++) {
                h = 31 * h + (what == 8 ? size : 0);
            }
            due("digest() of " + size, x.digest(), h);
            x.letter(126 - size);
        }
    }

    private static void digestInOrder() {
        says("31 times h, and it (as longs, wrapping): for each of these numbers, in order");
        BlobCorners x = blobOf("l");
        x.rack(0, 4);
        x.see(0, 3, true);
        x.letter(7);
        x.weight();
        int half = Float.floatToIntBits(0.5f);
        int[] numbers = {
            4, 16, 0,
            4, 0, 3, half, 1, 2, 0,
            0, 2, 0, 2, 1, 10, 2, 0, 2, 1, 11, 2, 0, 2, 1, 1, 2, 0, 2, 0,
            -1, -1, -1, -1, -1, -1, -1, -1, -1, -1, -1, -1, 0, -1, -1,
            7,
            1, 1, 1, 1, 0, 3, 1, 1, 1, 1, 1};
        long h = 1439;
        for (int number : numbers) {
            h = 31 * h + number;
        }
        due("digest()", x.digest(), h);
    }

    private static void calls512() {
        says("An object is used for at most 512 calls after it has been made");
        BlobCorners x = blobOf("ddl/.dl");
        // So far 8 calls; turned by 4 it is as it was.
        for (int i = 0; i < 500; i++) {
            due("turn " + i, x.turn(), 3);
        }
        answers("KINDS' first ones", new int[] {x.dot(0, 0), x.dot(2, 0)}, 0, 4);
        due("call 511", x.count(1), 3);
        due("call 512", x.corner(0, 2), 7);
    }
}

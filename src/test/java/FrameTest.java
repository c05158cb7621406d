import java.util.ArrayList;
import java.util.List;
import java.util.Set;

/**
 * What each call leaves as it was: a call changes what the document says of it, and nothing else. Each call
 * is made on an object of its own, and each part of its state is held against that of an object without
 * the call. Also: objects do not touch one another, and the same calls give the same answers.
 */
public final class FrameTest {
    private static final Set<String> NOTHING = Set.of();
    private static final Set<String> DOTS = Set.of("BLOB", "OUTLINES", "RACKS");
    private static final String[] PARTS =
        {"BLOB", "OUTLINES", "SEEN", "RACKS", "PAGE", "IMAGE", "READS", "WEIGHTS"};

    private static int wrong = 0;

    private interface Act {
        long on(BlobCorners x);
    }

    private static void check(boolean holds, String what) {
        if (!holds) {
            wrong++;
            System.out.println(what);
        }
    }

    public static void main(String[] args) {
        tellingChangesNothing();
        eachChangesItsOwn();
        refusedChangesNothing();
        objectsAreApart();
        sameCallsSameAnswers();
        System.out.println(wrong == 0 ? "all else stays as it was" : wrong + " things are not as they were");
        if (wrong != 0) {
            System.exit(1);
        }
    }

    // ---- an object with something in every part of its state

    private static List<Act> recipe() {
        List<Act> all = new ArrayList<>();
        write(all, "dd");
        all.add(BlobCorners::blob);
        all.add(BlobCorners::weight);
        write(all, "hdd/d.s/tdl");
        all.add(BlobCorners::blob);
        all.add(x -> x.see(0, 0, true));
        all.add(BlobCorners::image);
        all.add(x -> x.put(4, 4));
        all.add(x -> x.take(3));
        all.add(x -> x.see(5, 3, true));
        all.add(x -> x.see(0, 1, false));
        all.add(x -> x.rack(0, 0));
        all.add(x -> x.rack(5, 1));
        all.add(x -> x.rack(5, 2));
        all.add(BlobCorners::weight);
        write(all, "lh");
        return all;
    }

    private static void write(List<Act> all, String text) {
        for (char c : text.toCharArray()) {
            all.add(x -> x.letter(c));
        }
    }

    private static BlobCorners made() {
        BlobCorners x = new BlobCorners();
        for (Act act : recipe()) {
            act.on(x);
        }
        return x;
    }

    // ---- its parts, each as a text

    private static String part(String name, Act act) {
        BlobCorners x = made();
        act.on(x);
        switch (name) {
            case "BLOB":
                return blobOf(x);
            case "OUTLINES":
                return outlinesOf(x);
            case "SEEN":
                return seenOf(x);
            case "RACKS":
                return racksOf(x);
            case "PAGE":
                return x.count(8) + " " + x.fault() + " " + x.blob() + " " + blobOf(x);
            case "IMAGE":
                return x.restore() + " " + blobOf(x) + " " + seenOf(x);
            case "READS":
                return "" + x.count(9);
            default:
                return "" + x.count(10);
        }
    }

    private static String blobOf(BlobCorners x) {
        StringBuilder text = new StringBuilder();
        text.append(x.count(1)).append(" by ").append(x.count(2)).append(", ").append(x.count(0));
        for (int place = 0; place < x.count(1) * x.count(2); place++) {
            text.append(' ').append(x.dot(place, 0));
        }
        return text.toString();
    }

    private static String outlinesOf(BlobCorners x) {
        StringBuilder text = new StringBuilder();
        text.append(x.count(3)).append(' ').append(x.count(4)).append(' ').append(x.count(5));
        for (int outline = 0; outline < x.count(3); outline++) {
            text.append('\n');
            for (int what = 0; what <= 6; what++) {
                text.append(' ').append(x.outline(outline, what));
            }
            int length = x.outline(outline, 0);
            for (int i = 0; i < length; i++) {
                text.append("\n ");
                for (int what = 0; what <= 4; what++) {
                    text.append(' ').append(x.point(outline, i, what));
                }
                text.append(" corner ").append(x.corner(outline, i));
                for (int to = 0; to < length; to++) {
                    text.append(' ').append(x.joined(outline, i, to)).append(' ');
                    text.append(x.penalty(outline, i, to));
                }
            }
        }
        return text.toString();
    }

    private static String seenOf(BlobCorners x) {
        StringBuilder text = new StringBuilder();
        text.append(x.count(7));
        for (int place = 0; place < x.count(1) * x.count(2); place++) {
            text.append(' ').append(x.dot(place, 1)).append(' ').append(x.dot(place, 2));
        }
        return text.toString();
    }

    private static String racksOf(BlobCorners x) {
        StringBuilder text = new StringBuilder();
        text.append(x.count(6));
        for (int i = 0; i < 15; i++) {
            text.append(' ').append(x.racked(i / 3, i % 3));
        }
        return text.toString();
    }

    /** Those parts change, and no others; where none does, digest() is the same, too. */
    private static void changes(String call, Set<String> changed, Act act) {
        for (String name : PARTS) {
            String before = part(name, x -> 0);
            String behind = part(name, act);
            boolean isChanged = !before.equals(behind);
            check(isChanged == changed.contains(name), call + ": " + name + " was " + before + ", is " + behind);
        }
        if (changed.isEmpty()) {
            BlobCorners x = made();
            long before = x.digest();
            act.on(x);
            check(x.digest() == before, call + ": digest() is another one");
        }
    }

    // ---- the calls

    private static void tellingChangesNothing() {
        changes("fault()", NOTHING, BlobCorners::fault);
        changes("digest()", NOTHING, BlobCorners::digest);
        for (int i = 0; i <= 10; i++) {
            int n = i;
            changes("count(" + n + ")", NOTHING, x -> x.count(n));
            changes("dot(0, " + n + ")", NOTHING, x -> x.dot(0, n));
            changes("as(5, " + n + ")", NOTHING, x -> x.as(5, n));
            changes("outline(0, " + n + ")", NOTHING, x -> x.outline(0, n));
            changes("point(0, 3, " + n + ")", NOTHING, x -> x.point(0, 3, n));
            changes("joined(0, 2, " + n + ")", NOTHING, x -> x.joined(0, 2, n));
            changes("penalty(0, 2, " + n + ")", NOTHING, x -> x.penalty(0, 2, n));
            changes("corner(0, " + n + ")", NOTHING, x -> x.corner(0, n));
            changes("racked(1, " + n + ")", NOTHING, x -> x.racked(1, n));
        }
        for (int i = 0; i <= 2; i++) {
            int n = i;
            changes("drawn(3, 11, " + n + ")", NOTHING, x -> x.drawn(3, 11, n));
        }
    }

    private static void eachChangesItsOwn() {
        changes("letter('d')", Set.of("PAGE"), x -> x.letter('d'));
        changes("blank()", Set.of("PAGE"), BlobCorners::blank);
        changes("blob()", Set.of("BLOB", "OUTLINES", "SEEN", "RACKS", "PAGE", "IMAGE", "READS"),
            BlobCorners::blob);
        changes("put(3, 0)", DOTS, x -> x.put(3, 0));
        changes("put(0, 2)", DOTS, x -> x.put(0, 2));
        changes("take(4)", DOTS, x -> x.take(4));
        changes("turn()", DOTS, BlobCorners::turn);
        changes("mirror()", DOTS, BlobCorners::mirror);
        changes("rack(8, 4)", Set.of("RACKS"), x -> x.rack(8, 4));
        changes("weight()", Set.of("WEIGHTS"), BlobCorners::weight);
        changes("see(2, 2, false)", Set.of("SEEN"), x -> x.see(2, 2, false));
        changes("forget()", Set.of("SEEN"), BlobCorners::forget);
        changes("image()", Set.of("IMAGE"), BlobCorners::image);
        changes("restore()", Set.of("BLOB", "OUTLINES", "SEEN", "RACKS"), BlobCorners::restore);
    }

    private static void refusedChangesNothing() {
        changes("letter(0)", NOTHING, x -> x.letter(0));
        changes("letter(127)", NOTHING, x -> x.letter(127));
        changes("dot(9, 0)", NOTHING, x -> x.dot(9, 0));
        changes("as(3, 0)", NOTHING, x -> x.as(3, 0));
        changes("outline(9, 0)", NOTHING, x -> x.outline(9, 0));
        changes("point(0, 60, 0)", NOTHING, x -> x.point(0, 60, 0));
        changes("joined(0, 1, 1)", NOTHING, x -> x.joined(0, 1, 1));
        changes("penalty(9, 0, 1)", NOTHING, x -> x.penalty(9, 0, 1));
        changes("corner(9, 0)", NOTHING, x -> x.corner(9, 0));
        changes("put(9, 0)", NOTHING, x -> x.put(9, 0));
        changes("put(0, 5)", NOTHING, x -> x.put(0, 5));
        changes("take(3)", NOTHING, x -> x.take(3));
        changes("rack(3, 0)", NOTHING, x -> x.rack(3, 0));
        changes("rack(0, 5)", NOTHING, x -> x.rack(0, 5));
        changes("rack(0, 4), none such", NOTHING, x -> x.rack(0, 4));
        changes("see(9, 0, true)", NOTHING, x -> x.see(9, 0, true));
        changes("see(0, 4, true)", NOTHING, x -> x.see(0, 4, true));
        changes("drawn(4, 0, 0)", NOTHING, x -> x.drawn(4, 0, 0));
        changes("count(11)", NOTHING, x -> x.count(11));
        // THE PAGE is none with an 'x', so that THE BLOB, the RACKS, SEEN and the IMAGE stay.
        changes("letter('x'), blob()", Set.of("PAGE"), x -> x.letter('x') + x.blob());
    }

    // ---- several objects

    private static void objectsAreApart() {
        BlobCorners still = made();
        String outlines = outlinesOf(still);
        long before = still.digest();
        BlobCorners other = new BlobCorners();
        int call = 0;
        for (Act act : recipe()) {
            act.on(other);
            check(still.digest() == before, "call " + call + " of another object changed this one");
            call++;
        }
        other.turn();
        other.restore();
        other.drawn(3, 5, 0);
        check(still.digest() == before, "calls of another object changed this one");
        check(still.restore() == 8, "the IMAGE of this one");
        check(!outlinesOf(still).equals(outlines), "its OUTLINES behind restore()");
        long fresh = new BlobCorners().digest();
        check(fresh == newDigest(), "a new object beside used ones has something");
    }

    /** Of no BLOB: five RACKS of three, all NONE, and eleven counts, all 0. */
    private static long newDigest() {
        long h = 1439;
        for (int i = 0; i < 15; i++) {
            h = 31 * h - 1;
        }
        for (int i = 0; i < 11; i++) {
            h = 31 * h;
        }
        return h;
    }

    private static void sameCallsSameAnswers() {
        BlobCorners one = new BlobCorners();
        BlobCorners two = new BlobCorners();
        int call = 0;
        for (Act act : recipe()) {
            check(act.on(one) == act.on(two), "call " + call + " answers otherwise");
            // Asked of the one alone: what was told earlier must not tell on what is told later.
            one.digest();
            one.drawn(2, call, 0);
            check(one.outline(0, 3) == two.outline(0, 3), "PENALTY behind call " + call);
            call++;
        }
        check(outlinesOf(one).equals(outlinesOf(two)), "the OUTLINES are others");
        check(one.digest() == two.digest(), "digest() is another one");
    }
}

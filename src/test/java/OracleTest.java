import java.util.ArrayList;
import java.util.Arrays;
import java.util.HashSet;
import java.util.List;
import java.util.Random;
import java.util.Set;

/** Random runs of calls, each answer held against a second, plain reading of the document. */
public final class OracleTest {
    private static final int NONE = -1;
    private static final int UNKNOWN = -101;
    private static final int OUTSIDE = -102;
    private static final int STATE = -103;
    private static final int FULL = -104;
    private static final String SIGNS = "dhstl";

    private static int wrong = 0;
    private static final Set<String> answersSeen = new HashSet<>();

    /** One OUTLINE with all that is told of it. */
    private static final class Outline {
        final List<int[]> points = new ArrayList<>();
        int[] leeway;
        boolean[] must;
        boolean[][] joined;
        float[][] penalty;
        List<Integer> best;
        float bestPenalty;

        int length() {
            return points.size();
        }

        int besideTimesFar(int i, int k, int j) {
            int[] a = points.get(i);
            int[] b = points.get(k);
            int[] c = points.get(j);
            return (b[0] - a[0]) * (c[1] - a[1]) - (b[1] - a[1]) * (c[0] - a[0]);
        }

        List<Integer> between(int i, int j) {
            List<Integer> all = new ArrayList<>();
            for (int k = (i + 1) % length(); k != j; k = (k + 1) % length()) {
                all.add(k);
            }
            return all;
        }

        int signedArea(List<Integer> numbers) {
            int sum = 0;
            for (int i = 0; i < numbers.size(); i++) {
                int[] a = points.get(numbers.get(i));
                int[] b = points.get(numbers.get((i + 1) % numbers.size()));
                sum += a[0] * b[1] - a[1] * b[0];
            }
            return sum;
        }

        int signedArea() {
            List<Integer> all = new ArrayList<>();
            for (int i = 0; i < length(); i++) {
                all.add(i);
            }
            return signedArea(all);
        }

        void join() {
            int n = length();
            joined = new boolean[n][n];
            penalty = new float[n][n];
            for (int i = 0; i < n; i++) {
                for (int j = 0; j < n; j++) {
                    if (i != j) {
                        joinPair(i, j);
                    }
                }
            }
        }

        private void joinPair(int i, int j) {
            int dx = points.get(j)[0] - points.get(i)[0];
            int dy = points.get(j)[1] - points.get(i)[1];
            boolean ok = dx != 0 || dy != 0;
            int sum = 0;
            for (int k : between(i, j)) {
                int far = Math.abs(besideTimesFar(i, k, j));
                ok &= 2 * far <= leeway[k] * Math.max(Math.abs(dx), Math.abs(dy));
                ok &= !must[k];
                sum += far * far;
            }
            joined[i][j] = ok;
            if (ok) {
                penalty[i][j] = sum / (float) (dx * dx + dy * dy);
            }
        }

        /** Layer by layer for all F at once, until by some N there is a SUM of an F itself. */
        void findBest() {
            int n = length();
            List<Float[][]> layers = new ArrayList<>();
            List<int[][]> aheads = new ArrayList<>();
            Float[][] zero = new Float[n][n];
            for (int f = 0; f < n; f++) {
                zero[f][f] = 0f;
            }
            layers.add(zero);
            aheads.add(new int[n][n]);
            for (int steps = 1; best == null; steps++) {
                Float[][] last = layers.get(steps - 1);
                Float[][] now = new Float[n][n];
                int[][] ahead = new int[n][n];
                for (int f = 0; f < n; f++) {
                    for (int v = f + 1; v < n; v++) {
                        for (int u = v - 1; u >= f; u--) {
                            relax(last, now, ahead, f, u, v);
                        }
                    }
                    if (steps >= 3) {
                        for (int u = n - 1; u > f; u--) {
                            relax(last, now, ahead, f, u, f);
                        }
                    }
                }
                layers.add(now);
                aheads.add(ahead);
                pickBest(now, aheads, steps);
            }
        }

        // From the greatest U down, so that of like ones the least stays.
        private void relax(Float[][] last, Float[][] now, int[][] ahead, int f, int u, int v) {
            if (last[f][u] != null && joined[u][v]) {
                float sum = last[f][u] + penalty[u][v];
                if (now[f][v] == null || sum <= now[f][v]) {
                    now[f][v] = sum;
                    ahead[f][v] = u;
                }
            }
        }

        private void pickBest(Float[][] now, List<int[][]> aheads, int steps) {
            for (int f = 0; f < length(); f++) {
                if (steps < 3 || now[f][f] == null || (best != null && now[f][f] >= bestPenalty)) {
                    continue;
                }
                bestPenalty = now[f][f];
                best = new ArrayList<>();
                int at = f;
                for (int n = steps; n >= 1; n--) {
                    at = aheads.get(n)[f][at];
                    best.add(0, at);
                }
            }
        }

        int reach(int i) {
            int r = 1;
            while (r + 1 <= length() - 2 && joined[i][(i + r + 1) % length()]) {
                r++;
            }
            return r;
        }
    }

    private static boolean isDot(char[][] grid, int x, int y) {
        return y >= 0 && y < grid.length && x >= 0 && x < grid[0].length && grid[y][x] != '.';
    }

    /** EDGES as {x, y, x then, y then}, sorted by the POINTS that they begin at and lead to. */
    private static List<int[]> edges(char[][] grid) {
        List<int[]> all = new ArrayList<>();
        for (int y = 0; y < grid.length; y++) {
            for (int x = 0; x < grid[0].length; x++) {
                if (!isDot(grid, x, y)) {
                    continue;
                }
                if (!isDot(grid, x, y - 1)) {
                    all.add(new int[] {x, y, x + 1, y});
                }
                if (!isDot(grid, x + 1, y)) {
                    all.add(new int[] {x + 1, y, x + 1, y + 1});
                }
                if (!isDot(grid, x, y + 1)) {
                    all.add(new int[] {x + 1, y + 1, x, y + 1});
                }
                if (!isDot(grid, x - 1, y)) {
                    all.add(new int[] {x, y + 1, x, y});
                }
            }
        }
        all.sort((a, b) -> Integer.compare(order(a), order(b)));
        return all;
    }

    private static int order(int[] edge) {
        return (10 * edge[0] + edge[1]) * 1000 + 10 * edge[2] + edge[3];
    }

    private static List<Outline> outlines(char[][] grid) {
        List<Outline> all = new ArrayList<>();
        List<int[]> edges = edges(grid);
        Set<int[]> gone = new HashSet<>();
        for (int[] begin : edges) {
            if (gone.contains(begin)) {
                continue;
            }
            Outline o = new Outline();
            for (int[] e = begin; gone.add(e); e = after(edges, e)) {
                o.points.add(new int[] {e[0], e[1]});
            }
            describe(grid, o);
            o.join();
            o.findBest();
            all.add(o);
        }
        return all;
    }

    private static int[] after(List<int[]> edges, int[] e) {
        int[] found = null;
        for (int[] next : edges) {
            if (next[0] == e[2] && next[1] == e[3]) {
                // With y downward a turn to the right has this product above 0.
                int turn = (e[2] - e[0]) * (next[3] - next[1]) - (e[3] - e[1]) * (next[2] - next[0]);
                if (found == null || turn > 0) {
                    found = next;
                }
            }
        }
        return found;
    }

    private static void describe(char[][] grid, Outline o) {
        int n = o.length();
        o.leeway = new int[n];
        o.must = new boolean[n];
        for (int i = 0; i < n; i++) {
            int[] p = o.points.get(i);
            String touched = "";
            for (int dx = -1; dx <= 0; dx++) {
                for (int dy = -1; dy <= 0; dy++) {
                    if (isDot(grid, p[0] + dx, p[1] + dy)) {
                        touched += grid[p[1] + dy][p[0] + dx];
                    }
                }
            }
            int[] a = o.points.get((i + n - 1) % n);
            int[] b = o.points.get((i + 1) % n);
            boolean turns = a[0] != b[0] && a[1] != b[1];
            o.leeway[i] = touched.contains("t") ? 0 : touched.contains("l") ? 2 : 1;
            o.must[i] = touched.contains("s") || (touched.contains("h") && turns);
        }
    }

    private static int corners(List<Outline> all) {
        int sum = 0;
        for (Outline o : all) {
            sum += o.best.size();
        }
        return sum;
    }

    /** The whole object, as the document tells it. */
    private static final class Model {
        String page = "";
        char[][] grid;
        List<int[]> seen = new ArrayList<>();
        List<List<Integer>> racks = new ArrayList<>();
        char[][] keptGrid;
        List<int[]> keptSeen;
        int reads;
        int weights;
        List<Outline> found;

        Model() {
            changed();
        }

        void changed() {
            racks.clear();
            for (int i = 0; i < 5; i++) {
                racks.add(new ArrayList<>());
            }
            found = grid == null ? new ArrayList<>() : outlines(grid);
        }

        int places() {
            return grid == null ? 0 : grid.length * grid[0].length;
        }

        boolean has(int place) {
            return place >= 0 && place < places();
        }

        char sign(int place) {
            return has(place) ? grid[place / grid[0].length][place % grid[0].length] : '.';
        }

        void set(int place, char sign) {
            grid[place / grid[0].length][place % grid[0].length] = sign;
        }

        int dots() {
            int sum = 0;
            for (int i = 0; i < places(); i++) {
                sum += sign(i) == '.' ? 0 : 1;
            }
            return sum;
        }

        static boolean isBlob(String text) {
            return text.matches("([.dhstl]{1,5})(/[.dhstl]{1,5}){0,4}") && text.matches(".*[dhstl].*")
                && Arrays.stream(text.split("/")).allMatch(r -> r.length() == text.split("/")[0].length());
        }

        /** Whether some signs behind the text make it a BLOB, whether a DOT comes or not. */
        static boolean begins(String text) {
            for (int width = 1; width <= 5; width++) {
                StringBuilder whole = new StringBuilder();
                for (int i = 0; i < 5 * (width + 1) - 1; i++) {
                    whole.append(i % (width + 1) == width ? '/' : '.');
                }
                String signs = text.replaceAll("[dhstl]", ".");
                if (whole.toString().startsWith(signs)) {
                    return true;
                }
            }
            return false;
        }

        int fault() {
            for (int i = 0; i < page.length(); i++) {
                if (!begins(page.substring(0, i + 1))) {
                    return i;
                }
            }
            return page.length();
        }

        int letter(int code) {
            if (code < 1 || code > 126) {
                return OUTSIDE;
            }
            if (page.length() == 32) {
                return FULL;
            }
            page += (char) code;
            return page.length();
        }

        int blob() {
            if (!isBlob(page)) {
                return STATE;
            }
            String[] rows = page.split("/");
            grid = new char[rows.length][];
            for (int i = 0; i < rows.length; i++) {
                grid[i] = rows[i].toCharArray();
            }
            page = "";
            reads++;
            seen = new ArrayList<>();
            keptGrid = null;
            changed();
            return dots();
        }

        static boolean isSo(int kind, int what) {
            switch (what) {
                case 0:
                    return kind == 1 || kind == 2;
                case 1:
                    return kind == 2;
                case 2:
                    return kind != 3;
                default:
                    return kind == 4;
            }
        }

        List<Integer> sorts(int place) {
            List<Integer> left = new ArrayList<>();
            for (int kind = 0; kind < 5; kind++) {
                boolean ok = true;
                for (int[] s : seen) {
                    ok &= s[0] != place || isSo(kind, s[1]) == (s[2] == 1);
                }
                if (ok) {
                    left.add(kind);
                }
            }
            return left;
        }

        int ask(int place) {
            List<Integer> sorts = sorts(place);
            int best = NONE;
            long bestLeft = 99;
            for (int what = 0; what < 4 && !sorts.isEmpty(); what++) {
                int w = what;
                long yes = sorts.stream().filter(k -> isSo(k, w)).count();
                long left = Math.max(yes, sorts.size() - yes);
                if (left < bestLeft) {
                    bestLeft = left;
                    best = what;
                }
            }
            return best;
        }

        int dot(int place, int what) {
            if (!has(place)) {
                return UNKNOWN;
            }
            switch (what) {
                case 0:
                    return SIGNS.indexOf(sign(place));
                case 1:
                    return sorts(place).stream().mapToInt(k -> 1 << k).sum();
                case 2:
                    return ask(place);
                default:
                    return OUTSIDE;
            }
        }

        static boolean is(char sign, int kind) {
            return kind == 0 || SIGNS.indexOf(sign) == kind || (sign == 's' && kind == 1);
        }

        int as(int place, int kind) {
            if (sign(place) == '.') {
                return UNKNOWN;
            }
            return kind < 0 || kind > 4 ? OUTSIDE : is(sign(place), kind) ? place : NONE;
        }

        int outline(int number, int what) {
            if (number < 0 || number >= found.size()) {
                return UNKNOWN;
            }
            Outline o = found.get(number);
            switch (what) {
                case 0:
                    return o.length();
                case 1:
                    return o.signedArea() < 0 ? 1 : 0;
                case 2:
                    return o.best.size();
                case 3:
                    return Float.floatToIntBits(o.bestPenalty);
                case 4:
                    return Math.abs(o.signedArea(o.best));
                case 5:
                    return Math.abs(o.signedArea());
                case 6:
                    int musts = 0;
                    for (boolean m : o.must) {
                        musts += m ? 1 : 0;
                    }
                    return musts;
                default:
                    return OUTSIDE;
            }
        }

        int point(int outline, int number, int what) {
            if (outline < 0 || outline >= found.size()) {
                return UNKNOWN;
            }
            Outline o = found.get(outline);
            if (number < 0 || number >= o.length()) {
                return UNKNOWN;
            }
            switch (what) {
                case 0:
                    return 10 * o.points.get(number)[0] + o.points.get(number)[1];
                case 1:
                    return o.leeway[number];
                case 2:
                    return o.must[number] ? 1 : 0;
                case 3:
                    return o.reach(number);
                case 4:
                    return o.best.contains(number) ? 1 : 0;
                default:
                    return OUTSIDE;
            }
        }

        boolean hasPair(int outline, int from, int to) {
            return point(outline, from, 0) >= 0 && point(outline, to, 0) >= 0 && from != to;
        }

        int joined(int outline, int from, int to) {
            return !hasPair(outline, from, to) ? UNKNOWN : found.get(outline).joined[from][to] ? 1 : 0;
        }

        int penalty(int outline, int from, int to) {
            int j = joined(outline, from, to);
            return j < 0 ? j : j == 0 ? NONE
                : Float.floatToIntBits(found.get(outline).penalty[from][to]);
        }

        int corner(int outline, int number) {
            if (outline < 0 || outline >= found.size() || number < 0
                || number >= found.get(outline).best.size()) {
                return UNKNOWN;
            }
            return found.get(outline).best.get(number);
        }

        int put(int place, int kind) {
            if (!has(place)) {
                return UNKNOWN;
            }
            if (kind < 0 || kind > 4) {
                return OUTSIDE;
            }
            set(place, SIGNS.charAt(kind));
            changed();
            return found.size();
        }

        int take(int place) {
            if (sign(place) == '.') {
                return UNKNOWN;
            }
            if (dots() == 1) {
                return STATE;
            }
            set(place, '.');
            changed();
            return found.size();
        }

        int turn() {
            if (grid == null) {
                return STATE;
            }
            char[][] next = new char[grid[0].length][grid.length];
            for (int y = 0; y < grid.length; y++) {
                for (int x = 0; x < grid[0].length; x++) {
                    next[x][grid.length - 1 - y] = grid[y][x];
                }
            }
            grid = next;
            changed();
            return corners(found);
        }

        int mirror() {
            if (grid == null) {
                return STATE;
            }
            for (int y = 0; y < grid.length; y++) {
                grid[y] = new StringBuilder(new String(grid[y])).reverse().toString().toCharArray();
            }
            changed();
            return corners(found);
        }

        int rack(int place, int kind) {
            if (sign(place) == '.') {
                return UNKNOWN;
            }
            if (kind < 0 || kind > 4) {
                return OUTSIDE;
            }
            if (racks.get(kind).size() == 3) {
                return FULL;
            }
            if (!is(sign(place), kind)) {
                return NONE;
            }
            racks.get(kind).add(place);
            return racks.get(kind).size();
        }

        int racked(int kind, int number) {
            if (kind < 0 || kind > 4 || number < 0 || number > 2) {
                return OUTSIDE;
            }
            return number < racks.get(kind).size() ? racks.get(kind).get(number) : NONE;
        }

        int weight() {
            if (grid == null || weights == 5) {
                return STATE;
            }
            weights++;
            int least = 9999;
            int place = NONE;
            for (int i = 0; i < places() && dots() > 1; i++) {
                char sign = sign(i);
                if (sign != '.') {
                    set(i, '.');
                    int c = corners(outlines(grid));
                    set(i, sign);
                    if (c < least) {
                        least = c;
                        place = i;
                    }
                }
            }
            return place;
        }

        int see(int place, int what, boolean was) {
            if (!has(place)) {
                return UNKNOWN;
            }
            if (what < 0 || what > 3) {
                return OUTSIDE;
            }
            if (seen.size() == 6) {
                return FULL;
            }
            seen.add(new int[] {place, what, was ? 1 : 0});
            return seen.size();
        }

        int forget() {
            int n = seen.size();
            seen = new ArrayList<>();
            return n;
        }

        int blank() {
            int n = page.length();
            page = "";
            return n;
        }

        int drawn(int times, int seed, int what) {
            if (times < 1 || times > 3 || seed < 0 || what < 0 || what > 2) {
                return OUTSIDE;
            }
            long next = seed;
            int corners = 0;
            int count = 0;
            for (int t = 0; t < times; t++) {
                char[][] drawn = new char[3][4];
                for (int i = 0; i < 12; i++) {
                    next = (1103515245L * next + 12345L) % 2147483648L;
                    drawn[i / 4][i % 4] = next / 65536 % 3 == 0 ? '.' : 'd';
                }
                corners += corners(outlines(drawn));
                count += outlines(drawn).size();
            }
            return what == 0 ? corners : what == 1 ? count : (int) next;
        }

        static char[][] copy(char[][] grid) {
            char[][] c = new char[grid.length][];
            for (int i = 0; i < grid.length; i++) {
                c[i] = grid[i].clone();
            }
            return c;
        }

        int image() {
            if (grid == null) {
                return STATE;
            }
            keptGrid = copy(grid);
            keptSeen = new ArrayList<>(seen);
            return dots();
        }

        int restore() {
            if (keptGrid == null) {
                return STATE;
            }
            grid = copy(keptGrid);
            seen = new ArrayList<>(keptSeen);
            changed();
            return dots();
        }

        int count(int what) {
            switch (what) {
                case 0:
                    return dots();
                case 1:
                    return grid == null ? 0 : grid[0].length;
                case 2:
                    return grid == null ? 0 : grid.length;
                case 3:
                    return found.size();
                case 4:
                    return (int) found.stream().filter(o -> o.signedArea() < 0).count();
                case 5:
                    return corners(found);
                case 6:
                    return racks.stream().mapToInt(List::size).sum();
                case 7:
                    return seen.size();
                case 8:
                    return page.length();
                case 9:
                    return reads;
                case 10:
                    return weights;
                default:
                    return OUTSIDE;
            }
        }

        long digest() {
            List<Integer> all = new ArrayList<>();
            for (int p = 0; p < places(); p++) {
                for (int w = 0; w < 3; w++) {
                    all.add(dot(p, w));
                }
            }
            for (int o = 0; o < found.size(); o++) {
                for (int w = 0; w < 7; w++) {
                    all.add(outline(o, w));
                }
                for (int n = 0; n < found.get(o).length(); n++) {
                    for (int w = 0; w < 5; w++) {
                        all.add(point(o, n, w));
                    }
                }
            }
            for (int i = 0; i < 15; i++) {
                all.add(racked(i / 3, i % 3));
            }
            for (char c : page.toCharArray()) {
                all.add((int) c);
            }
            for (int w = 0; w < 11; w++) {
                all.add(count(w));
            }
            long h = 1439;
            for (int n : all) {
                h = 31 * h + n;
            }
            return h;
        }
    }

    private static void due(String trail, String call, long got, long want) {
        answersSeen.add(call.substring(0, call.indexOf('(')) + (want < 0 && want >= -104 ? want : "+"));
        if (got != want) {
            wrong++;
            if (wrong < 20) {
                System.out.println(trail + call + " answered " + got + ", due is " + want);
            }
        }
    }

    private static int number(Random r, int most) {
        int kind = r.nextInt(40);
        if (kind == 0) {
            return r.nextBoolean() ? Integer.MIN_VALUE : Integer.MAX_VALUE;
        }
        return kind == 1 ? -1 : r.nextInt(most);
    }

    private static String randomBlob(Random r) {
        int width = 1 + r.nextInt(5);
        int height = 1 + r.nextInt(5);
        String signs = new String[] {"d", "d.", "d..", "ddd.", "dhstl", "dhstl....", "dddl.", "l", "l.",
            "lll.h", "ddddh..", "s.", "dt", "h."}[r.nextInt(14)];
        StringBuilder text = new StringBuilder();
        for (int y = 0; y < height; y++) {
            for (int x = 0; x < width; x++) {
                text.append(signs.charAt(r.nextInt(signs.length())));
            }
            if (y + 1 < height) {
                text.append('/');
            }
        }
        if (r.nextInt(8) == 0) {
            text.setCharAt(r.nextInt(text.length()), "./x".charAt(r.nextInt(3)));
        }
        return text.toString();
    }

    private static void writeBlob(BlobCorners x, Model m, String text) {
        due("", "blank()", x.blank(), m.blank());
        for (char c : text.toCharArray()) {
            due(text, "letter()", x.letter(c), m.letter(c));
        }
        due(text + " ", "fault()", x.fault(), m.fault());
        due(text + " ", "blob()", x.blob(), m.blob());
    }

    private static void call(BlobCorners x, Model m, Random r, String trail) {
        int a = number(r, 27);
        int b = number(r, 6);
        int c = number(r, 6);
        int o = r.nextInt(4) == 0 ? number(r, 6) : 0;
        int n = number(r, 30);
        int k = r.nextInt(3) == 0 ? number(r, 30) : (n + r.nextInt(6)) % 28;
        boolean was = r.nextBoolean();
        int seed = r.nextInt();
        String all = "(" + a + ", " + b + ", " + c + ", " + o + ", " + n + ", " + k + ", " + was + ")";
        switch (r.nextInt(26)) {
            case 0: due(trail, "letter" + all, x.letter(n + 90), m.letter(n + 90)); break;
            case 1: due(trail, "blank" + all, x.blank(), m.blank()); break;
            case 2: due(trail, "fault" + all, x.fault(), m.fault()); break;
            case 3: due(trail, "blob" + all, x.blob(), m.blob()); break;
            case 4: due(trail, "dot" + all, x.dot(a, b), m.dot(a, b)); break;
            case 5: due(trail, "as" + all, x.as(a, b), m.as(a, b)); break;
            case 6: due(trail, "outline" + all, x.outline(o, c + b), m.outline(o, c + b)); break;
            case 7: due(trail, "point" + all, x.point(o, n, c), m.point(o, n, c)); break;
            case 8: due(trail, "joined" + all, x.joined(o, n, k), m.joined(o, n, k)); break;
            case 9: due(trail, "penalty" + all, x.penalty(o, n, k), m.penalty(o, n, k)); break;
            case 10: due(trail, "corner" + all, x.corner(o, b + c), m.corner(o, b + c)); break;
            case 11: due(trail, "put" + all, x.put(a, b), m.put(a, b)); break;
            case 12: due(trail, "take" + all, x.take(a), m.take(a)); break;
            case 13: due(trail, "turn" + all, x.turn(), m.turn()); break;
            case 14: due(trail, "mirror" + all, x.mirror(), m.mirror()); break;
            case 15: case 16:
                for (int i = 0; i < 4; i++) {
                    due(trail, "rack" + all, x.rack(a % 25 + i, b), m.rack(a % 25 + i, b));
                }
                break;
            case 17: due(trail, "racked" + all, x.racked(b, c), m.racked(b, c)); break;
            case 18: due(trail, "weight" + all, x.weight(), m.weight()); break;
            case 19: case 20: due(trail, "see" + all, x.see(a, b, was), m.see(a, b, was)); break;
            case 21:
                if (b == 0) {
                    due(trail, "forget" + all, x.forget(), m.forget());
                }
                break;
            case 22:
                int what = b % 5;
                int s = c == 0 ? seed : seed & 0x7FFFFFFF;
                due(trail, "drawn" + all, x.drawn(c, s, what), m.drawn(c, s, what));
                break;
            case 23: due(trail, "image" + all, x.image(), m.image()); break;
            case 24: due(trail, "restore" + all, x.restore(), m.restore()); break;
            default: due(trail, "count" + all, x.count(b + c), m.count(b + c)); break;
        }
    }

    private static void run(long seed) {
        Random r = new Random(seed);
        BlobCorners x = new BlobCorners();
        Model m = new Model();
        if (r.nextInt(10) > 0) {
            writeBlob(x, m, randomBlob(r));
        }
        for (int i = 0; i < 60; i++) {
            if (r.nextInt(30) == 0) {
                writeBlob(x, m, randomBlob(r));
            }
            call(x, m, r, "run " + seed + " call " + i + ": ");
            if (r.nextInt(6) == 0) {
                due("run " + seed + " call " + i + ": ", "digest()", x.digest(), m.digest());
            }
        }
    }

    private static void wholeBlob(String text) {
        BlobCorners x = new BlobCorners();
        Model m = new Model();
        writeBlob(x, m, text);
        due(text + " ", "digest()", x.digest(), m.digest());
        for (int o = 0; o < m.found.size(); o++) {
            int n = m.found.get(o).length();
            for (int i = 0; i < n * n; i++) {
                due(text, "joined()", x.joined(o, i / n, i % n), m.joined(o, i / n, i % n));
                due(text, "penalty()", x.penalty(o, i / n, i % n), m.penalty(o, i / n, i % n));
            }
            for (int i = 0; i <= n; i++) {
                due(text + " ", "corner()", x.corner(o, i), m.corner(o, i));
            }
        }
    }

    private static String plainBlob(int bits, int width, int height, char sign) {
        StringBuilder text = new StringBuilder();
        for (int i = 0; i < width * height; i++) {
            if (i > 0 && i % width == 0) {
                text.append('/');
            }
            text.append((bits >> i & 1) == 1 ? sign : '.');
        }
        return text.toString();
    }

    public static void main(String[] args) {
        int runs = args.length > 0 ? Integer.parseInt(args[0]) : 1500;
        for (int bits = 1; bits < 512; bits++) {
            wholeBlob(plainBlob(bits, 3, 3, 'd'));
            wholeBlob(plainBlob(bits, 3, 3, 'l'));
        }
        Random r = new Random(7);
        for (int i = 0; i < runs; i++) {
            wholeBlob(randomBlob(r));
        }
        for (int seed = 0; seed < runs; seed++) {
            run(seed);
        }
        System.out.println(answersSeen.size() + " sorts of answers compared");
        System.out.println(wrong == 0 ? "all answers as the plain reading" : wrong + " answers differ");
        if (wrong != 0) {
            System.exit(1);
        }
    }
}

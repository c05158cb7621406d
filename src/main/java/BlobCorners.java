/**
 * A blob of dots, drawn by fewest corners: its outlines, which of their points can be joined,
 * the best polygon of each, and what is done to the dots.
 */
public final class BlobCorners {
    public static final int NONE = -1, UNKNOWN = -101, OUTSIDE = -102, STATE = -103, FULL = -104;

    private static final int HARD = 1, SHARP = 2, THIN = 3, LOOSE = 4, KINDS = 5;
    private static final String SIGNS = "dhstl";

    private static final int MOST_SIDE = 5, MOST_PLACES = 25;
    private static final int POINTS_ASIDE = 6, MOST_GRID_POINTS = 36;
    // Each side between two neighbouring grid points is gone along once at most: 2 * 5 * 6.
    private static final int MOST_POINTS = 60;
    // An outline has four points at least.
    private static final int MOST_OUTLINES = 15;

    private static final int MOST_WEIGHTS = 5;
    private static final int DRAWN_WIDTH = 4, DRAWN_HEIGHT = 3, MOST_TIMES = 3;
    private static final int COUNTS = 11, OUTLINE_ANSWERS = 7, POINT_ANSWERS = 5, DOT_ANSWERS = 3;

    private final Page page = new Page();
    private final Grid grid = new Grid();
    private final Grid spare = new Grid();
    private final Grid kept = new Grid();
    private final Seen seen = new Seen();
    private final Seen keptSeen = new Seen();
    private final Racks racks = new Racks();
    private final Outlines outlines = new Outlines();
    private final Joints joints = new Joints(outlines);
    private final BestPolygons best = new BestPolygons(outlines, joints);
    // For BLOBS that are not there: drawn ones, and THE BLOB without a DOT.
    private final Outlines tried = new Outlines();
    private final Joints triedJoints = new Joints(tried);
    private boolean isKept = false;
    private int blobsRead = 0;
    private int weightsAsked = 0;

    public BlobCorners() {
    }

    // ---- the blob

    public int letter(int code) {
        if (code < 1 || code > 126) {
            return OUTSIDE;
        }
        return page.append(code) ? page.size : FULL;
    }

    public int blank() {
        int had = page.size;
        page.size = 0;
        return had;
    }

    public int fault() {
        return page.firstFault();
    }

    public int blob() {
        if (!page.readInto(spare)) {
            return STATE;
        }
        grid.copyFrom(spare);
        page.size = 0;
        blobsRead++;
        seen.size = 0;
        isKept = false;
        dotsChanged();
        return grid.dots();
    }

    public int dot(int place, int what) {
        if (!grid.has(place)) {
            return UNKNOWN;
        }
        if (what < 0 || what >= DOT_ANSWERS) {
            return OUTSIDE;
        }
        return dotAnswer(place, what);
    }

    public int as(int place, int kind) {
        if (grid.kindAt(place) == NONE) {
            return UNKNOWN;
        }
        if (!isKind(kind)) {
            return OUTSIDE;
        }
        return isAlso(grid.kindAt(place), kind) ? place : NONE;
    }

    // ---- outlines

    public int outline(int outline, int what) {
        if (!outlines.has(outline)) {
            return UNKNOWN;
        }
        if (what < 0 || what >= OUTLINE_ANSWERS) {
            return OUTSIDE;
        }
        return outlineAnswer(outline, what);
    }

    public int point(int outline, int number, int what) {
        if (!outlines.hasPoint(outline, number)) {
            return UNKNOWN;
        }
        if (what < 0 || what >= POINT_ANSWERS) {
            return OUTSIDE;
        }
        return pointAnswer(outline, number, what);
    }

    public int joined(int outline, int from, int to) {
        if (!outlines.hasPair(outline, from, to)) {
            return UNKNOWN;
        }
        return outlines.canJoin(outline, from, to) ? 1 : 0;
    }

    public int penalty(int outline, int from, int to) {
        if (!outlines.hasPair(outline, from, to)) {
            return UNKNOWN;
        }
        if (!outlines.canJoin(outline, from, to)) {
            return NONE;
        }
        return bitsOf(outlines.penaltyOf(outline, from, to));
    }

    public int corner(int outline, int number) {
        if (!outlines.has(outline) || number < 0 || number >= best.fewestOf(outline)) {
            return UNKNOWN;
        }
        best.solve(outline);
        return best.cornerAt(outlines.startOf(outline) + number);
    }

    // ---- what is done

    public int put(int place, int kind) {
        if (!grid.has(place)) {
            return UNKNOWN;
        }
        if (!isKind(kind)) {
            return OUTSIDE;
        }
        grid.set(place, kind);
        dotsChanged();
        return outlines.count;
    }

    public int take(int place) {
        if (grid.kindAt(place) == NONE) {
            return UNKNOWN;
        }
        if (grid.dots() == 1) {
            return STATE;
        }
        grid.set(place, NONE);
        dotsChanged();
        return outlines.count;
    }

    public int turn() {
        if (blobsRead == 0) {
            return STATE;
        }
        spare.copyFrom(grid);
        grid.turnFrom(spare);
        dotsChanged();
        return allCorners();
    }

    public int mirror() {
        if (blobsRead == 0) {
            return STATE;
        }
        spare.copyFrom(grid);
        grid.mirrorFrom(spare);
        dotsChanged();
        return allCorners();
    }

    public int rack(int place, int kind) {
        if (grid.kindAt(place) == NONE) {
            return UNKNOWN;
        }
        if (!isKind(kind)) {
            return OUTSIDE;
        }
        if (racks.isFull(kind)) {
            return FULL;
        }
        return isAlso(grid.kindAt(place), kind) ? racks.add(kind, place) : NONE;
    }

    public int racked(int kind, int number) {
        if (!isKind(kind) || number < 0 || number >= Racks.ROOM) {
            return OUTSIDE;
        }
        return racks.placeAt(kind, number);
    }

    // ---- what would be

    public int weight() {
        if (blobsRead == 0 || weightsAsked >= MOST_WEIGHTS) {
            return STATE;
        }
        weightsAsked++;
        return grid.dots() == 1 ? NONE : heaviestPlace();
    }

    // ---- what is seen

    public int see(int place, int what, boolean was) {
        if (!grid.has(place)) {
            return UNKNOWN;
        }
        if (what < 0 || what >= Seen.QUESTIONS) {
            return OUTSIDE;
        }
        return seen.add(place, what, was) ? seen.size : FULL;
    }

    public int forget() {
        int had = seen.size;
        seen.size = 0;
        return had;
    }

    public int drawn(int times, int seed, int what) {
        if (times < 1 || times > MOST_TIMES || seed < 0 || what < 0 || what > 2) {
            return OUTSIDE;
        }
        int next = seed;
        int corners = 0;
        int count = 0;
        for (int i = 0; i < times; i++) {
            next = drawInto(spare, next);
            tried.trace(spare);
            count += tried.count;
            // They are dear to find, so only who asks for them pays for them.
            if (what == 0) {
                corners += triedCorners();
            }
        }
        return what == 0 ? corners : what == 1 ? count : next;
    }

    // ---- what is told of all

    public int image() {
        if (blobsRead == 0) {
            return STATE;
        }
        kept.copyFrom(grid);
        keptSeen.copyFrom(seen);
        isKept = true;
        return grid.dots();
    }

    public int restore() {
        if (!isKept) {
            return STATE;
        }
        grid.copyFrom(kept);
        seen.copyFrom(keptSeen);
        dotsChanged();
        return grid.dots();
    }

    public int count(int what) {
        if (what < 0 || what >= COUNTS) {
            return OUTSIDE;
        }
        return countAnswer(what);
    }

    public long digest() {
        long h = 1439L;
        for (int place = 0; place < grid.places(); place++) {
            for (int what = 0; what < DOT_ANSWERS; what++) {
                h = 31L * h + dotAnswer(place, what);
            }
        }
        for (int i = 0; i < outlines.count; i++) {
            h = digestOutline(h, i);
        }
        for (int kind = 0; kind < KINDS; kind++) {
            for (int number = 0; number < Racks.ROOM; number++) {
                h = 31L * h + racks.placeAt(kind, number);
            }
        }
        for (int i = 0; i < page.size; i++) {
            h = 31L * h + page.codeAt(i);
        }
        for (int what = 0; what < COUNTS; what++) {
            h = 31L * h + countAnswer(what);
        }
        return h;
    }

    // ---- answers to calls whose numbers have been looked at

    private int dotAnswer(int place, int what) {
        switch (what) {
            case 0:
                return grid.kindAt(place);
            case 1:
                return seen.sortsOf(place);
            default:
                return Seen.nextQuestion(seen.sortsOf(place));
        }
    }

    private int outlineAnswer(int outline, int what) {
        switch (what) {
            case 0:
                return outlines.lengthOf(outline);
            case 1:
                return outlines.isHole(outline) ? 1 : 0;
            case 2:
                return best.fewestOf(outline);
            case 3:
                best.solve(outline);
                return best.bitsAt(outline);
            case 4:
                best.solve(outline);
                return best.areaAt(outline);
            case 5:
                return Math.abs(outlines.areaOf(outline));
            default:
                return outlines.mustCount(outline);
        }
    }

    private int pointAnswer(int outline, int number, int what) {
        int at = outlines.startOf(outline) + number;
        switch (what) {
            case 0:
                return 10 * outlines.xAt(at) + outlines.yAt(at);
            case 1:
                return outlines.leewayAt(at);
            case 2:
                return outlines.mustAt(at) ? 1 : 0;
            case 3:
                return outlines.reachOf(outline, number);
            default:
                best.solve(outline);
                return best.isCornerAt(at) ? 1 : 0;
        }
    }

    private int countAnswer(int what) {
        switch (what) {
            case 0:
                return grid.dots();
            case 1:
                return grid.width;
            case 2:
                return grid.height;
            case 3:
                return outlines.count;
            case 4:
                return outlines.holes();
            case 5:
                return allCorners();
            case 6:
                return racks.total();
            case 7:
                return seen.size;
            case 8:
                return page.size;
            case 9:
                return blobsRead;
            default:
                return weightsAsked;
        }
    }

    private long digestOutline(long before, int outline) {
        long h = before;
        for (int what = 0; what < OUTLINE_ANSWERS; what++) {
            h = 31L * h + outlineAnswer(outline, what);
        }
        for (int number = 0; number < outlines.lengthOf(outline); number++) {
            for (int what = 0; what < POINT_ANSWERS; what++) {
                h = 31L * h + pointAnswer(outline, number, what);
            }
        }
        return h;
    }

    // ---- what the calls share

    private void dotsChanged() {
        racks.clear();
        outlines.trace(grid);
        joints.reset();
        best.reset();
    }

    private int allCorners() {
        int sum = 0;
        for (int i = 0; i < outlines.count; i++) {
            sum += best.fewestOf(i);
        }
        return sum;
    }

    private int triedCorners() {
        int sum = 0;
        triedJoints.reset();
        for (int i = 0; i < tried.count; i++) {
            triedJoints.fill(i);
            sum += triedJoints.fewest();
        }
        return sum;
    }

    private int heaviestPlace() {
        // More CORNERS than POINTS there can't be.
        int least = MOST_POINTS + 1;
        int found = NONE;
        for (int place = 0; place < grid.places(); place++) {
            if (grid.kindAt(place) == NONE) {
                continue;
            }
            spare.copyFrom(grid);
            spare.set(place, NONE);
            tried.trace(spare);
            int corners = triedCorners();
            if (corners < least) {
                least = corners;
                found = place;
            }
        }
        return found;
    }

    private static boolean isKind(int kind) {
        return kind >= 0 && kind < KINDS;
    }

    /** Whether a DOT of a KIND is of another one, too. */
    private static boolean isAlso(int kind, int other) {
        return other == 0 || kind == other || (kind == SHARP && other == HARD);
    }

    /** Draws a BLOB and answers the SEED then. */
    private static int drawInto(Grid target, int seed) {
        int next = seed;
        target.clear(DRAWN_WIDTH, DRAWN_HEIGHT);
        for (int place = 0; place < DRAWN_WIDTH * DRAWN_HEIGHT; place++) {
            next = (int) ((1103515245L * next + 12345L) & 0x7FFFFFFFL);
            target.set(place, next / 65536 % 3 == 0 ? NONE : 0);
        }
        return next;
    }

    /**
     * The bits of a fraction of single precision that is 0 or not less than 1/50, found by
     * arithmetic alone, as the library has no call for it here. All steps are exact.
     */
    private static int bitsOf(float value) {
        if (!(value > 0.0f)) {
            return 0;
        }
        float rest = value;
        int exponent = 127;
        for (int i = 0; i < 127 && rest >= 2.0f; i++) {
            rest = rest / 2.0f;
            exponent++;
        }
        for (int i = 0; i < 126 && rest < 1.0f; i++) {
            rest = rest * 2.0f;
            exponent--;
        }
        return (exponent << 23) | (int) ((rest - 1.0f) * 8388608.0f);
    }

    /** THE PAGE: letters that may be read as a BLOB. */
    private static final class Page {
        private static final int ROOM = 32;

        private final int[] codes = new int[ROOM];
        private int size = 0;

        private boolean append(int code) {
            if (size < 0 || size >= ROOM) {
                return false;
            }
            codes[size] = code;
            size++;
            return true;
        }

        private int codeAt(int i) {
            return i >= 0 && i < ROOM ? codes[i] : 0;
        }

        private int firstFault() {
            int row = 0;
            int column = 0;
            int width = MOST_SIDE;
            for (int i = 0; i < size; i++) {
                int code = codeAt(i);
                if (code == '/') {
                    boolean isWhole = row == 0 ? column > 0 : column == width;
                    if (!isWhole || row == MOST_SIDE - 1) {
                        return i;
                    }
                    width = column;
                    row++;
                    column = 0;
                } else if (!isSign(code) || column == width) {
                    return i;
                } else {
                    column++;
                }
            }
            return size;
        }

        /** Whether THE PAGE is a BLOB; if it is, the target is that one. */
        private boolean readInto(Grid target) {
            if (size == 0 || firstFault() < size) {
                return false;
            }
            int width = firstRowLength();
            if (width < 1) {
                return false;
            }
            int rows = (size + 1) / (width + 1);
            // Without a fault only the last row can be too short.
            if (rows * (width + 1) != size + 1) {
                return false;
            }
            target.clear(width, rows);
            for (int place = 0; place < width * rows; place++) {
                int code = codeAt(place + place / width);
                target.set(place, code == '.' ? NONE : SIGNS.indexOf((char) code));
            }
            return target.dots() > 0;
        }

        private int firstRowLength() {
            for (int i = 0; i < size; i++) {
                if (codeAt(i) == '/') {
                    return i;
                }
            }
            return size;
        }

        private static boolean isSign(int code) {
            return code == '.' || SIGNS.indexOf((char) code) >= 0;
        }
    }

    /** PLACES, row by row, each with the KIND of its DOT or NONE. */
    private static final class Grid {
        private final int[] kinds = new int[MOST_PLACES];
        private int width = 0;
        private int height = 0;

        private int places() {
            return width * height;
        }

        private boolean has(int place) {
            return place >= 0 && place < width * height && place < MOST_PLACES;
        }

        private int kindAt(int place) {
            return has(place) ? kinds[place] : NONE;
        }

        private int kindAtCell(int x, int y) {
            int place = y * width + x;
            return x >= 0 && x < width && y >= 0 && y < height && place < MOST_PLACES
                ? kinds[place] : NONE;
        }

        private boolean hasDot(int x, int y) {
            return kindAtCell(x, y) != NONE;
        }

        private int dots() {
            int sum = 0;
            for (int place = 0; place < places(); place++) {
                if (kindAt(place) != NONE) {
                    sum++;
                }
            }
            return sum;
        }

        private void clear(int newWidth, int newHeight) {
            width = newWidth;
            height = newHeight;
            for (int place = 0; place < MOST_PLACES; place++) {
                kinds[place] = NONE;
            }
        }

        private void set(int place, int kind) {
            if (has(place)) {
                kinds[place] = kind;
            }
        }

        private void copyFrom(Grid other) {
            width = other.width;
            height = other.height;
            for (int place = 0; place < MOST_PLACES; place++) {
                kinds[place] = other.kinds[place];
            }
        }

        private void turnFrom(Grid other) {
            clear(other.height, other.width);
            for (int y = 0; y < height; y++) {
                for (int x = 0; x < width; x++) {
                    set(y * width + x, other.kindAtCell(y, width - 1 - x));
                }
            }
        }

        private void mirrorFrom(Grid other) {
            clear(other.width, other.height);
            for (int y = 0; y < height; y++) {
                for (int x = 0; x < width; x++) {
                    set(y * width + x, other.kindAtCell(width - 1 - x, y));
                }
            }
        }
    }

    /** What is SEEN of the DOTS of PLACES. */
    private static final class Seen {
        private static final int ROOM = 6, QUESTIONS = 4, ALL_SORTS = 31;
        // For each question the KINDS, as bits, that are so.
        private static final int[] SORTS_THAT_ARE = {
            1 << HARD | 1 << SHARP, 1 << SHARP, ALL_SORTS - (1 << THIN), 1 << LOOSE};

        private final int[] places = new int[ROOM];
        private final int[] questions = new int[ROOM];
        private final boolean[] answers = new boolean[ROOM];
        private int size = 0;

        private boolean add(int place, int question, boolean was) {
            if (size < 0 || size >= ROOM) {
                return false;
            }
            places[size] = place;
            questions[size] = question;
            answers[size] = was;
            size++;
            return true;
        }

        private void copyFrom(Seen other) {
            size = other.size;
            for (int i = 0; i < ROOM; i++) {
                places[i] = other.places[i];
                questions[i] = other.questions[i];
                answers[i] = other.answers[i];
            }
        }

        private int sortsOf(int place) {
            int sorts = ALL_SORTS;
            for (int i = 0; i < size && i < ROOM; i++) {
                if (places[i] == place) {
                    int are = sortsThatAre(questions[i]);
                    sorts &= answers[i] ? are : ~are;
                }
            }
            return sorts;
        }

        private static int nextQuestion(int sorts) {
            if (sorts == 0) {
                return NONE;
            }
            int least = KINDS + 1;
            int found = NONE;
            for (int question = 0; question < QUESTIONS; question++) {
                int are = sortsThatAre(question);
                int left = Math.max(Integer.bitCount(sorts & are), Integer.bitCount(sorts & ~are));
                if (left < least) {
                    least = left;
                    found = question;
                }
            }
            return found;
        }

        private static int sortsThatAre(int question) {
            return question >= 0 && question < QUESTIONS ? SORTS_THAT_ARE[question] : ALL_SORTS;
        }
    }

    /** A RACK for each KIND. */
    private static final class Racks {
        private static final int ROOM = 3;

        private final int[] places = new int[KINDS * ROOM];
        private final int[] sizes = new int[KINDS];

        private void clear() {
            for (int kind = 0; kind < KINDS; kind++) {
                sizes[kind] = 0;
            }
        }

        private boolean isFull(int kind) {
            return !isKind(kind) || sizes[kind] >= ROOM;
        }

        private int add(int kind, int place) {
            if (isFull(kind) || sizes[kind] < 0) {
                return FULL;
            }
            places[kind * ROOM + sizes[kind]] = place;
            sizes[kind]++;
            return sizes[kind];
        }

        private int placeAt(int kind, int number) {
            if (!isKind(kind) || number < 0 || number >= ROOM || number >= sizes[kind]) {
                return NONE;
            }
            return places[kind * ROOM + number];
        }

        private int total() {
            int sum = 0;
            for (int kind = 0; kind < KINDS; kind++) {
                sum += sizes[kind];
            }
            return sum;
        }
    }

    /**
     * The OUTLINES of a grid. The POINTS of all of them stand one behind another in the same
     * rows; an OUTLINE is where its POINTS start there and how many they are.
     */
    private static final class Outlines {
        private static final int RIGHT = 0, DOWN = 1, LEFT = 2, UP = 3, WAYS = 4;
        private static final int[] STEP_X = {1, 0, -1, 0};
        private static final int[] STEP_Y = {0, 1, 0, -1};
        // By the POINT that each way leads to, the least first.
        private static final int[] START_ORDER = {LEFT, UP, DOWN, RIGHT};

        private int count = 0;
        private int total = 0;
        private final int[] starts = new int[MOST_OUTLINES];
        private final int[] lengths = new int[MOST_OUTLINES];
        private final int[] areas = new int[MOST_OUTLINES];
        private final int[] xs = new int[MOST_POINTS];
        private final int[] ys = new int[MOST_POINTS];
        private final int[] ways = new int[MOST_POINTS];
        private final int[] leeways = new int[MOST_POINTS];
        private final boolean[] musts = new boolean[MOST_POINTS];
        // Of each grid point the ways of the EDGES that begin there, as bits.
        private final int[] edges = new int[MOST_GRID_POINTS];
        private final int[] gone = new int[MOST_GRID_POINTS];

        private void trace(Grid grid) {
            count = 0;
            total = 0;
            findEdges(grid);
            for (int x = 0; x <= grid.width; x++) {
                for (int y = 0; y <= grid.height; y++) {
                    for (int i = 0; i < WAYS; i++) {
                        int way = START_ORDER[i];
                        if (begins(edges, x, y, way) && !begins(gone, x, y, way)) {
                            follow(x, y, way);
                        }
                    }
                }
            }
            for (int i = 0; i < count && i < MOST_OUTLINES; i++) {
                areas[i] = signedArea(i);
                describePoints(grid, i);
            }
        }

        private void findEdges(Grid grid) {
            for (int at = 0; at < MOST_GRID_POINTS; at++) {
                int x = at % POINTS_ASIDE;
                int y = at / POINTS_ASIDE;
                boolean northWest = grid.hasDot(x - 1, y - 1);
                boolean northEast = grid.hasDot(x, y - 1);
                boolean southWest = grid.hasDot(x - 1, y);
                boolean southEast = grid.hasDot(x, y);
                int bits = 0;
                bits |= southEast && !northEast ? 1 << RIGHT : 0;
                bits |= southWest && !southEast ? 1 << DOWN : 0;
                bits |= northWest && !southWest ? 1 << LEFT : 0;
                bits |= northEast && !northWest ? 1 << UP : 0;
                edges[at] = bits;
                gone[at] = 0;
            }
        }

        private static boolean begins(int[] some, int x, int y, int way) {
            int at = y * POINTS_ASIDE + x;
            return x >= 0 && y >= 0 && x < POINTS_ASIDE && at < some.length
                && (some[at] >> way & 1) == 1;
        }

        private void follow(int startX, int startY, int startWay) {
            if (count < 0 || count >= MOST_OUTLINES) {
                return;
            }
            int x = startX;
            int y = startY;
            int way = startWay;
            starts[count] = total;
            for (int i = 0; i < MOST_POINTS; i++) {
                addPoint(x, y, way);
                x += STEP_X[way];
                y += STEP_Y[way];
                way = nextWay(x, y, way);
                if (way < 0 || way >= WAYS || (x == startX && y == startY && way == startWay)) {
                    break;
                }
            }
            lengths[count] = total - starts[count];
            count++;
        }

        private void addPoint(int x, int y, int way) {
            int at = y * POINTS_ASIDE + x;
            if (total < 0 || total >= MOST_POINTS || at < 0 || at >= MOST_GRID_POINTS) {
                return;
            }
            xs[total] = x;
            ys[total] = y;
            ways[total] = way;
            total++;
            gone[at] |= 1 << way;
        }

        private int nextWay(int x, int y, int way) {
            int right = (way + 1) % WAYS;
            int left = (way + 3) % WAYS;
            if (begins(edges, x, y, right)) {
                return right;
            }
            if (begins(edges, x, y, way)) {
                return way;
            }
            return begins(edges, x, y, left) ? left : NONE;
        }

        private int signedArea(int outline) {
            int start = startOf(outline);
            int length = lengthOf(outline);
            int sum = 0;
            for (int i = 0; i < length; i++) {
                int a = start + i;
                int b = start + (i + 1 < length ? i + 1 : 0);
                sum += xAt(a) * yAt(b) - xAt(b) * yAt(a);
            }
            return sum;
        }

        private void describePoints(Grid grid, int outline) {
            int start = startOf(outline);
            int length = lengthOf(outline);
            int before = wayAt(start + length - 1);
            for (int at = start; at < start + length && at < MOST_POINTS; at++) {
                int kinds = touchedKinds(grid, xAt(at), yAt(at));
                boolean turns = wayAt(at) != before;
                before = wayAt(at);
                leeways[at] = hasKind(kinds, THIN) ? 0 : hasKind(kinds, LOOSE) ? 2 : 1;
                musts[at] = hasKind(kinds, SHARP) || (turns && hasKind(kinds, HARD));
            }
        }

        private static int touchedKinds(Grid grid, int x, int y) {
            int kinds = 0;
            for (int i = 0; i < 4; i++) {
                int kind = grid.kindAtCell(x - i % 2, y - i / 2);
                if (kind != NONE) {
                    kinds |= 1 << kind;
                }
            }
            return kinds;
        }

        private static boolean hasKind(int kinds, int kind) {
            return (kinds >> kind & 1) == 1;
        }

        private boolean has(int outline) {
            return outline >= 0 && outline < count && outline < MOST_OUTLINES;
        }

        private boolean hasPoint(int outline, int number) {
            return number >= 0 && number < lengthOf(outline);
        }

        private boolean hasPair(int outline, int from, int to) {
            return hasPoint(outline, from) && hasPoint(outline, to) && from != to;
        }

        private int startOf(int outline) {
            return outline >= 0 && outline < MOST_OUTLINES ? starts[outline] : 0;
        }

        private int lengthOf(int outline) {
            return outline >= 0 && outline < count && outline < MOST_OUTLINES
                ? lengths[outline] : 0;
        }

        private int areaOf(int outline) {
            return has(outline) ? areas[outline] : 0;
        }

        private boolean isHole(int outline) {
            return areaOf(outline) < 0;
        }

        private int xAt(int at) {
            return at >= 0 && at < MOST_POINTS ? xs[at] : 0;
        }

        private int yAt(int at) {
            return at >= 0 && at < MOST_POINTS ? ys[at] : 0;
        }

        private int wayAt(int at) {
            return at >= 0 && at < MOST_POINTS ? ways[at] : 0;
        }

        private int leewayAt(int at) {
            return at >= 0 && at < MOST_POINTS ? leeways[at] : 0;
        }

        private boolean mustAt(int at) {
            return at >= 0 && at < MOST_POINTS && musts[at];
        }

        private int holes() {
            int sum = 0;
            for (int i = 0; i < count; i++) {
                if (isHole(i)) {
                    sum++;
                }
            }
            return sum;
        }

        private int mustCount(int outline) {
            int start = startOf(outline);
            int sum = 0;
            for (int i = 0; i < lengthOf(outline); i++) {
                if (mustAt(start + i)) {
                    sum++;
                }
            }
            return sum;
        }

        /** How far K is beside the line from I to J, times how far J is from I. */
        private int beside(int i, int k, int j) {
            return (xAt(k) - xAt(i)) * (yAt(j) - yAt(i)) - (yAt(k) - yAt(i)) * (xAt(j) - xAt(i));
        }

        /** Of two POINTS that there are. */
        private boolean canJoin(int outline, int from, int to) {
            int start = startOf(outline);
            int length = lengthOf(outline);
            int x = xAt(start + from);
            int y = yAt(start + from);
            int right = xAt(start + to) - x;
            int down = yAt(start + to) - y;
            int span = Math.max(Math.abs(right), Math.abs(down));
            if (span == 0) {
                return false;
            }
            int steps = stepsBetween(from, to, length);
            for (int s = 1; s < steps; s++) {
                int k = start + (from + s < length ? from + s : from + s - length);
                // Nearly all the time of all calls is spent here, so the rows are read at once.
                if (k < 0 || k >= MOST_POINTS || musts[k]) {
                    return false;
                }
                int far = (xs[k] - x) * down - (ys[k] - y) * right;
                if (2 * Math.abs(far) > leeways[k] * span) {
                    return false;
                }
            }
            return true;
        }

        private float penaltyOf(int outline, int from, int to) {
            int start = startOf(outline);
            int length = lengthOf(outline);
            int i = start + from;
            int j = start + to;
            int right = xAt(j) - xAt(i);
            int down = yAt(j) - yAt(i);
            int squared = right * right + down * down;
            if (squared == 0) {
                return 0.0f;
            }
            int steps = stepsBetween(from, to, length);
            int sum = 0;
            for (int s = 1; s < steps; s++) {
                int k = start + (from + s < length ? from + s : from + s - length);
                int far = beside(i, k, j);
                sum += far * far;
            }
            return (float) sum / (float) squared;
        }

        private static int stepsBetween(int from, int to, int length) {
            return to > from ? to - from : to - from + length;
        }

        private int reachOf(int outline, int number) {
            int length = lengthOf(outline);
            int reach = 1;
            for (int s = 2; s <= length - 2; s++) {
                int to = number + s < length ? number + s : number + s - length;
                if (!canJoin(outline, number, to)) {
                    break;
                }
                reach = s;
            }
            return reach;
        }
    }

    /** Which POINTS of one OUTLINE can be JOINED with which. */
    private static final class Joints {
        private final Outlines outlines;
        private final long[] joints = new long[MOST_POINTS];
        private int filledFor = NONE;
        private int length = 0;

        private Joints(Outlines outlines) {
            this.outlines = outlines;
        }

        /** To be called when the OUTLINES are others. */
        private void reset() {
            filledFor = NONE;
        }

        private void fill(int outline) {
            if (filledFor == outline) {
                return;
            }
            filledFor = outline;
            length = Math.min(outlines.lengthOf(outline), MOST_POINTS);
            for (int from = 0; from < length; from++) {
                joints[from] = jointsFrom(outline, from);
            }
        }

        private long jointsFrom(int outline, int from) {
            int start = outlines.startOf(outline);
            long bits = 0L;
            for (int s = 1; s < length; s++) {
                int to = from + s < length ? from + s : from + s - length;
                if (outlines.canJoin(outline, from, to)) {
                    bits |= 1L << to;
                }
                // None beyond a POINT that has to be a CORNER can be JOINED.
                if (outlines.mustAt(start + to)) {
                    break;
                }
            }
            return bits;
        }

        private long from(int number) {
            return number >= 0 && number < MOST_POINTS ? joints[number] : 0L;
        }

        private boolean are(int from, int to) {
            return from >= 0 && from < MOST_POINTS && (joints[from] >>> to & 1L) == 1L;
        }

        /** The POINTS of a greater number than the first one that can be JOINED with it. */
        private long lastOnes(int first) {
            long bits = 0L;
            for (int u = first + 1; u < length; u++) {
                if (are(u, first)) {
                    bits |= 1L << u;
                }
            }
            return bits;
        }

        /** The CORNERS: how many the POLYGON with fewest of them has. */
        private int fewest() {
            // All POINTS are always a POLYGON, as neighbours can be JOINED.
            int least = length;
            for (int first = 0; first < length; first++) {
                long last = lastOnes(first);
                if (last != 0L) {
                    least = fewestFrom(first, last, least);
                }
            }
            return least;
        }

        private int fewestFrom(int first, long last, int least) {
            long reached = 1L << first;
            for (int n = 1; n < least; n++) {
                if (n >= 3 && (reached & last) != 0L) {
                    return n;
                }
                reached = next(reached, first);
            }
            return least;
        }

        private long next(long reached, int first) {
            long bits = 0L;
            for (int u = first; u < length; u++) {
                if ((reached >>> u & 1L) == 1L) {
                    bits |= from(u) & (-2L << u);
                }
            }
            return bits;
        }
    }

    /** The BEST POLYGONS of OUTLINES, each found when it is first asked for. */
    private static final class BestPolygons {
        private final Outlines outlines;
        private final Joints joints;
        private final int[] fewest = new int[MOST_OUTLINES];
        private final boolean[] isSolved = new boolean[MOST_OUTLINES];
        private final int[] bits = new int[MOST_OUTLINES];
        private final int[] areas = new int[MOST_OUTLINES];
        // Like the POINTS of the OUTLINES: those of all stand one behind another.
        private final int[] corners = new int[MOST_POINTS];
        private final boolean[] isCorner = new boolean[MOST_POINTS];
        private final float[] penalties = new float[MOST_POINTS * MOST_POINTS];
        // Of N steps and a POINT: its SUM, and the POINT ahead of it.
        private final float[] sums = new float[MOST_POINTS * MOST_POINTS];
        private final int[] aheads = new int[MOST_POINTS * MOST_POINTS];
        private int length = 0;
        private int lastAhead = 0;

        private BestPolygons(Outlines outlines, Joints joints) {
            this.outlines = outlines;
            this.joints = joints;
        }

        /** To be called when the OUTLINES are others. */
        private void reset() {
            for (int i = 0; i < MOST_OUTLINES; i++) {
                fewest[i] = 0;
                isSolved[i] = false;
            }
        }

        private int fewestOf(int outline) {
            if (outline < 0 || outline >= MOST_OUTLINES) {
                return 0;
            }
            if (fewest[outline] == 0) {
                joints.fill(outline);
                fewest[outline] = joints.fewest();
            }
            return fewest[outline];
        }

        private void solve(int outline) {
            if (outline < 0 || outline >= MOST_OUTLINES || isSolved[outline]) {
                return;
            }
            isSolved[outline] = true;
            joints.fill(outline);
            int steps = joints.fewest();
            int start = outlines.startOf(outline);
            length = Math.min(outlines.lengthOf(outline), MOST_POINTS);
            fillPenalties(outline);
            float least = noSum();
            for (int first = 0; first < length; first++) {
                if (joints.lastOnes(first) == 0L) {
                    continue;
                }
                float sum = sumRound(first, steps);
                if (isSum(sum) && (!isSum(least) || sum < least)) {
                    least = sum;
                    keepCorners(start, first, steps);
                }
            }
            markCorners(start, steps);
            bits[outline] = bitsOf(least);
            areas[outline] = polygonArea(start, steps);
        }

        private void fillPenalties(int outline) {
            for (int from = 0; from < length; from++) {
                for (int to = 0; to < length; to++) {
                    int at = from * MOST_POINTS + to;
                    if (at < penalties.length && joints.are(from, to)) {
                        penalties[at] = outlines.penaltyOf(outline, from, to);
                    }
                }
            }
        }

        /** The SUM of a POINT itself by so many steps. */
        private float sumRound(int first, int steps) {
            for (int v = first; v < length; v++) {
                setSum(0, v, v == first ? 0.0f : noSum(), NONE);
            }
            for (int n = 1; n < steps; n++) {
                setSum(n, first, noSum(), NONE);
                for (int v = first + 1; v < length; v++) {
                    float sum = leastInto(v, n, first, v);
                    setSum(n, v, sum, lastAhead);
                }
            }
            return leastInto(first, steps, first + 1, length);
        }

        /**
         * The SUM of a POINT by N steps from those of lesser number than the end, by N - 1 steps;
         * lastAhead is then the POINT ahead.
         */
        private float leastInto(int to, int n, int begin, int end) {
            float least = noSum();
            lastAhead = NONE;
            for (int u = begin; u < end; u++) {
                float before = sumAt(n - 1, u);
                if (!isSum(before) || !joints.are(u, to)) {
                    continue;
                }
                float sum = before + penaltyAt(u, to);
                if (!isSum(least) || sum < least) {
                    least = sum;
                    lastAhead = u;
                }
            }
            return least;
        }

        /** What stands where there is no SUM: SUMS are never less than 0. */
        private static float noSum() {
            return -1.0f;
        }

        private static boolean isSum(float sum) {
            return sum >= 0.0f;
        }

        private void setSum(int n, int number, float sum, int ahead) {
            int at = n * MOST_POINTS + number;
            if (at >= 0 && at < sums.length) {
                sums[at] = sum;
                aheads[at] = ahead;
            }
        }

        private float sumAt(int n, int number) {
            int at = n * MOST_POINTS + number;
            return at >= 0 && at < sums.length ? sums[at] : noSum();
        }

        private float penaltyAt(int from, int to) {
            int at = from * MOST_POINTS + to;
            return at >= 0 && at < penalties.length ? penalties[at] : 0.0f;
        }

        /** Keeps the CORNERS of the way round that was found last, from its end to its begin. */
        private void keepCorners(int start, int first, int steps) {
            int number = lastAhead;
            for (int n = steps - 1; n >= 0; n--) {
                int at = start + n;
                if (at < 0 || at >= MOST_POINTS) {
                    return;
                }
                corners[at] = n == 0 ? first : number;
                int from = n * MOST_POINTS + number;
                number = from >= 0 && from < aheads.length ? aheads[from] : NONE;
            }
        }

        private void markCorners(int start, int steps) {
            for (int i = 0; i < length && start + i < MOST_POINTS; i++) {
                isCorner[start + i] = false;
            }
            for (int i = 0; i < steps; i++) {
                int at = start + cornerAt(start + i);
                if (at >= 0 && at < MOST_POINTS) {
                    isCorner[at] = true;
                }
            }
        }

        private int polygonArea(int start, int steps) {
            int sum = 0;
            for (int i = 0; i < steps; i++) {
                int a = start + cornerAt(start + i);
                int b = start + cornerAt(start + (i + 1 < steps ? i + 1 : 0));
                sum += outlines.xAt(a) * outlines.yAt(b) - outlines.xAt(b) * outlines.yAt(a);
            }
            return Math.abs(sum);
        }

        private int bitsAt(int outline) {
            return outline >= 0 && outline < MOST_OUTLINES ? bits[outline] : 0;
        }

        private int areaAt(int outline) {
            return outline >= 0 && outline < MOST_OUTLINES ? areas[outline] : 0;
        }

        private int cornerAt(int at) {
            return at >= 0 && at < MOST_POINTS ? corners[at] : 0;
        }

        private boolean isCornerAt(int at) {
            return at >= 0 && at < MOST_POINTS && isCorner[at];
        }
    }
}

/** Wheels that tell areas, by what each edge of a traced path sweeps about a pole. */
public final class WheelAreas {
    public static final int BAD = -1, STATE = -2, FULL = -3, NONE = -4;

    private static final int PLAIN = 0, COARSE = 1, STICK = 2, FREE = 3;
    private static final int KINDS = 4;
    private static final int MAX_STEP = 9;
    private static final int MAX_PLACE = 20;
    private static final int MAX_CORNERS = 10;
    private static final int MAX_WHEELS = 4;

    private static final int MAX_TAPE = 160;
    private static final int MAX_BYTE = 127;
    private static final int TEXT_REFUSED = -10;

    private static final int TRACED_LIMIT = 10000;
    private static final int MAX_TRACE = 100;
    private static final int MAX_AHEAD = 200;
    private static final int MAX_MISSED = 8;
    private static final int MAX_ODDS = 10;

    private static final int AREA_BASE = 100000;
    private static final int SWEEP_BASE = 10000;
    private static final int READS_BASE = 20000000;
    private static final int ABOVE_ANY_ERROR = 1000000;
    private static final int MIN_TOLD = 10000000;
    private static final int MAX_TOLD = 30000000;

    private static final int MAX_SEEN = 6;
    private static final int MAX_SEEN_EDGES = 40;
    private static final int IMAGES = 2;

    private static final int SHEETS = 4;
    private static final int LANES = 3;
    private static final int MAX_CELLS = 40;
    private static final int MAX_READ = 20;
    private static final int NULL_FAULT = 1, INDEX_FAULT = 2, CAST_FAULT = 3, SIZE_FAULT = 4;
    private static final int SHEET_REFUSED = -10;
    private static final int READ_REFUSED = -20;

    private final Layout now = new Layout();
    /** What might be: calls that try something try it here, so that what is refused changes nothing. */
    private final Layout trial = new Layout();
    private final Layout[] images = new Layout[IMAGES];
    private final boolean[] kept = new boolean[IMAGES];
    private final TextReader reader = new TextReader();
    private final Sightings sightings = new Sightings();
    private final Sheet[] sheets = new Sheet[SHEETS];
    private final int[] edgeRolls = new int[MAX_MISSED];
    private final int[] readsByStep = new int[MAX_STEP + 1];
    private int textFault = 0;
    private int readFault = 0;

    public WheelAreas() {
        for (int k = 0; k < IMAGES; k++) {
            images[k] = new Layout();
        }
        for (int k = 0; k < SHEETS; k++) {
            sheets[k] = new Sheet();
        }
    }

    // ---- the text, what there is

    public int feed(int c) {
        if (!within(c, 0, MAX_BYTE)) {
            return BAD;
        }
        if (reader.tape.size >= MAX_TAPE) {
            return FULL;
        }
        reader.tape.append(c);
        return reader.tape.size;
    }

    public int end(int n) {
        if (!within(n, 0, reader.tape.size)) {
            return BAD;
        }
        int had = reader.tape.size;
        reader.tape.size = n;
        return had;
    }

    public int text() {
        reader.readText();
        reader.tape.size = 0;
        textFault = reader.found;
        if (textFault != 0) {
            return TEXT_REFUSED - reader.foundAt;
        }
        now.copyFrom(reader.told);
        sightings.size = 0;
        for (int k = 0; k < IMAGES; k++) {
            kept[k] = false;
        }
        return reader.lines;
    }

    public int fault() {
        return textFault;
    }

    public int rule(int what) {
        switch (what) {
            case 0:
                return now.corners;
            case 1:
                return now.wheels;
            case 2:
                return now.traced;
            case 3:
                return AREA_BASE + now.area();
            case 4:
                return now.edgeAhead(0);
            case 5:
                return now.poleX;
            case 6:
                return now.poleY;
            default:
                return BAD;
        }
    }

    public int corner(int i, int what) {
        if (!hasCorner(i)) {
            return BAD;
        }
        switch (what) {
            case 0:
                return now.cornerX[i];
            case 1:
                return now.cornerY[i];
            case 2:
                return SWEEP_BASE + now.sweepOf(i);
            default:
                return BAD;
        }
    }

    public int wheel(int w, int what) {
        if (!hasWheel(w)) {
            return BAD;
        }
        switch (what) {
            case 0:
                return now.wheelKind[w];
            case 1:
                return now.wheelStep[w];
            case 2:
                return READS_BASE + now.wheelReads[w];
            case 3:
                return READS_BASE + now.shownBy(w);
            case 4:
                return now.errorOf(w);
            default:
                return BAD;
        }
    }

    // ---- what is changed

    public int alter(int w, int what, int v) {
        if (!hasWheel(w)) {
            return BAD;
        }
        if (what == 0 && isKind(v)) {
            int was = now.wheelKind[w];
            now.wheelKind[w] = v;
            return was;
        }
        if (what == 1 && isStep(v)) {
            int was = now.wheelStep[w];
            now.wheelStep[w] = v;
            return was;
        }
        return BAD;
    }

    public int put(int kind, int step) {
        if (!isKind(kind) || !isStep(step)) {
            return BAD;
        }
        if (now.wheels >= MAX_WHEELS) {
            return FULL;
        }
        now.appendWheel(kind, step);
        return now.wheels;
    }

    public int cut(int n) {
        if (!within(n, 0, now.wheels)) {
            return BAD;
        }
        int had = now.wheels;
        now.wheels = n;
        return had;
    }

    public int zero(int w) {
        if (!hasWheel(w)) {
            return BAD;
        }
        int had = now.wheelReads[w];
        now.wheelReads[w] = 0;
        return READS_BASE + had;
    }

    public int shift(int i, int x, int y) {
        if (!hasCorner(i) || !isPlace(x, y)) {
            return BAD;
        }
        int had = pair(now.cornerX[i], now.cornerY[i]);
        now.moveCorner(i, x, y);
        return had;
    }

    public int add(int x, int y) {
        int refused = refusalOfCorner(now, x, y);
        if (refused != 0) {
            return refused;
        }
        now.appendCorner(x, y);
        return now.corners;
    }

    public int drop(int n) {
        if (!within(n, 0, now.corners)) {
            return BAD;
        }
        int had = now.corners;
        now.corners = n;
        return had;
    }

    public int pole(int x, int y) {
        if (!isPlace(x, y)) {
            return BAD;
        }
        int had = pair(now.poleX, now.poleY);
        now.movePole(x, y);
        return had;
    }

    // ---- edges

    public int trace(int n) {
        if (!within(n, 0, MAX_TRACE)) {
            return BAD;
        }
        if (now.traced + n >= TRACED_LIMIT) {
            return FULL;
        }
        int rolled = 0;
        for (int edge = 0; edge < n; edge++) {
            rolled += now.rollAll(now.sweepAhead(0));
            now.traced++;
        }
        return rolled;
    }

    public int runs(int n, int what) {
        if (!within(n, 0, MAX_AHEAD)) {
            return BAD;
        }
        switch (what) {
            case 0:
                return rolledAhead(n);
            case 1:
                return idleAhead(n);
            case 2:
                return greatestSweepAhead(n);
            default:
                return BAD;
        }
    }

    public int ahead(int w, int n) {
        if (!hasWheel(w) || !within(n, 0, MAX_AHEAD)) {
            return BAD;
        }
        return READS_BASE + now.readsAhead(w, n);
    }

    public int when(int w, int v) {
        if (!hasWheel(w) || !isTold(v)) {
            return BAD;
        }
        int aim = v - READS_BASE;
        int reads = now.wheelReads[w];
        for (int n = 0; n <= MAX_AHEAD; n++) {
            if (reads >= aim) {
                return n;
            }
            reads += now.rollOf(w, now.sweepAhead(n));
        }
        return NONE;
    }

    // ---- what is best

    public int best(int w, int what) {
        if (!hasWheel(w) || !isEither(what)) {
            return BAD;
        }
        trial.copyFrom(now);
        int least = ABOVE_ANY_ERROR;
        int where = 0;
        for (int x = 0; x <= MAX_PLACE; x++) {
            for (int y = 0; y <= MAX_PLACE; y++) {
                trial.movePole(x, y);
                int error = trial.errorOf(w);
                if (error < least) {
                    least = error;
                    where = pair(x, y);
                }
            }
        }
        return what == 0 ? where : least;
    }

    public int step(int w, int what) {
        if (!hasWheel(w) || !isEither(what)) {
            return BAD;
        }
        trial.copyFrom(now);
        int least = ABOVE_ANY_ERROR;
        int which = 0;
        for (int step = 1; step <= MAX_STEP; step++) {
            trial.wheelStep[w] = step;
            int error = trial.errorOf(w);
            if (error <= least) {
                least = error;
                which = step;
            }
        }
        return what == 0 ? which : least;
    }

    public int kind(int w, int what) {
        if (!hasWheel(w) || !isEither(what)) {
            return BAD;
        }
        trial.copyFrom(now);
        int least = ABOVE_ANY_ERROR;
        int which = 0;
        for (int kind = 0; kind < KINDS; kind++) {
            trial.wheelKind[w] = kind;
            int error = trial.errorOf(w);
            if (error < least) {
                least = error;
                which = kind;
            }
        }
        return what == 0 ? which : least;
    }

    public int place(int i, int what) {
        if (!hasCorner(i) || !isEither(what)) {
            return BAD;
        }
        trial.copyFrom(now);
        int most = -1;
        int where = 0;
        for (int x = 0; x <= MAX_PLACE; x++) {
            for (int y = 0; y <= MAX_PLACE; y++) {
                trial.moveCorner(i, x, y);
                int size = trial.areaUnsigned();
                if (size > most) {
                    most = size;
                    where = pair(x, y);
                }
            }
        }
        return what == 0 ? where : most;
    }

    public int swap(int what) {
        if (!isEither(what)) {
            return BAD;
        }
        trial.copyFrom(now);
        int most = now.areaUnsigned();
        int which = NONE;
        for (int i = 0; i < now.corners; i++) {
            for (int j = i + 1; j < now.corners; j++) {
                trial.exchangeCorners(i, j);
                int size = trial.areaUnsigned();
                trial.exchangeCorners(i, j);
                if (size > most) {
                    most = size;
                    which = 10 * i + j;
                }
            }
        }
        return which == NONE || what == 0 ? which : most;
    }

    public int out(int what) {
        if (!isEither(what)) {
            return BAD;
        }
        int most = now.areaUnsigned();
        int which = NONE;
        for (int i = 0; i < now.corners; i++) {
            trial.copyFrom(now);
            trial.removeCorner(i);
            int size = trial.areaUnsigned();
            if (size > most) {
                most = size;
                which = i;
            }
        }
        return which == NONE || what == 0 ? which : most;
    }

    // ---- edges that are missed

    public long luck(int v, int w, int e, int n, int what) {
        if (!isTold(e) || !isMissing(v, w, n) || !isEither(what)) {
            return BAD;
        }
        setEdgeRolls(w, n);
        int aim = e - READS_BASE;
        long sum = 0;
        for (int traced = 0; traced < 1 << n; traced++) {
            if (readsByTraced(w, n, traced) >= aim) {
                sum += chancesOf(v, n, traced);
            }
        }
        return partOfFraction(sum, tenTimes(n), what);
    }

    public long mean(int v, int w, int n, int what) {
        if (!isMissing(v, w, n) || !isEither(what)) {
            return BAD;
        }
        setEdgeRolls(w, n);
        long sum = 0;
        for (int traced = 0; traced < 1 << n; traced++) {
            sum += chancesOf(v, n, traced) * Math.abs(readsByTraced(w, n, traced));
        }
        return partOfFraction(sum, tenTimes(n), what);
    }

    // ---- what was read

    public int see(int n, int w, int v) {
        if (!within(n, 0, MAX_SEEN_EDGES) || !hasWheel(w) || !isTold(v)) {
            return BAD;
        }
        if (sightings.size >= MAX_SEEN) {
            return FULL;
        }
        sightings.append(n, w, v - READS_BASE);
        return sightings.size;
    }

    public int forget(int n) {
        if (!within(n, 0, sightings.size)) {
            return BAD;
        }
        int had = sightings.size;
        sightings.size = n;
        return had;
    }

    public int kinds(int w) {
        if (!hasWheel(w)) {
            return BAD;
        }
        trial.copyFrom(now);
        int bits = 0;
        for (int kind = 0; kind < KINDS; kind++) {
            trial.wheelKind[w] = kind;
            if (sightings.agreeWith(trial)) {
                bits |= 1 << kind;
            }
        }
        return bits;
    }

    public int steps(int w) {
        return hasWheel(w) ? stepsAsSeen(w) : BAD;
    }

    public int ask(int w, int what) {
        if (!hasWheel(w) || !isEither(what)) {
            return BAD;
        }
        int left = stepsAsSeen(w);
        int fewest = Integer.bitCount(left);
        int first = NONE;
        for (int step = 1; step <= MAX_STEP; step++) {
            readsByStep[step] = now.wheelReads[w];
        }
        for (int n = 0; n <= MAX_SEEN_EDGES; n++) {
            int worst = mostAlike(left);
            if (worst < fewest) {
                fewest = worst;
                first = n;
            }
            rollEachStep(now.wheelKind[w], now.sweepAhead(n));
        }
        return first == NONE || what == 0 ? first : fewest;
    }

    // ---- by a seed

    public int drift(int seed, int n, int what) {
        if (!within(n, 1, MAX_AHEAD) || !isEither(what)) {
            return BAD;
        }
        int edges = now.corners;
        if (now.wheels == 0 || edges == 0) {
            return STATE;
        }
        trial.copyFrom(now);
        int next = seed;
        int rolled = 0;
        for (int i = 0; i < n; i++) {
            next = next * 1103515245 + 12345;
            int got = (next >>> 16) & 0x7fff;
            rolled += trial.rollAll(trial.sweepOf(got % edges));
        }
        return what == 0 ? READS_BASE + trial.wheelReads[0] : rolled;
    }

    // ---- images, sheets

    public int keep(int k) {
        if (!within(k, 0, IMAGES - 1)) {
            return BAD;
        }
        int was = kept[k] ? 1 : 0;
        images[k].copyFrom(now);
        kept[k] = true;
        return was;
    }

    public int back(int k) {
        if (!within(k, 0, IMAGES - 1)) {
            return BAD;
        }
        if (!kept[k]) {
            return STATE;
        }
        now.copyFrom(images[k]);
        return now.traced;
    }

    public int sheet(int k, int lane, int n) {
        if (!isSheet(k) || !isLane(lane) || n > MAX_CELLS) {
            return BAD;
        }
        if (n < 0) {
            return SHEET_REFUSED - SIZE_FAULT;
        }
        sheets[k].renew(lane, n);
        return 1;
    }

    public int lay(int k, int i, int v) {
        if (!isSheet(k)) {
            return BAD;
        }
        Sheet laid = sheets[k];
        int found = laid.faultAt(laid.lane, i);
        if (found != 0) {
            return SHEET_REFUSED - found;
        }
        laid.layCell(i, v);
        return 1;
    }

    public int read(int k, int lane, int f, int n) {
        if (!isSheet(k) || !isLane(lane) || !within(n, 0, MAX_READ)) {
            return BAD;
        }
        Sheet source = sheets[k];
        trial.copyFrom(now);
        int found = 0;
        for (int i = 0; i < n && found == 0; i++) {
            int cell = f + 2 * i;
            found = source.faultAtPair(lane, cell);
            if (found == 0) {
                int x = source.cells[cell];
                int y = source.cells[cell + 1];
                if (refusalOfCorner(trial, x, y) != 0) {
                    return READ_REFUSED - i;
                }
                trial.appendCorner(x, y);
            }
        }
        int came = trial.corners - now.corners;
        now.copyFrom(trial);
        readFault = found;
        return came;
    }

    public int torn() {
        return readFault;
    }

    public int count(int what) {
        switch (what) {
            case 0:
                return sightings.size;
            case 1:
                return (kept[0] ? 1 : 0) + (kept[1] ? 1 : 0);
            case 2:
                return reader.tape.size;
            case 3:
                return sheets[0].isNothing() ? NONE : sheets[0].size;
            case 4:
                return now.sumOfSteps();
            case 5:
                return now.sumOfPlaces();
            default:
                return BAD;
        }
    }

    // ---- what numbers may be

    private static boolean within(int number, int least, int most) {
        return number >= least && number <= most;
    }

    private static boolean isEither(int what) {
        return within(what, 0, 1);
    }

    private static boolean isPlace(int x, int y) {
        return within(x, 0, MAX_PLACE) && within(y, 0, MAX_PLACE);
    }

    private static boolean isKind(int number) {
        return within(number, 0, KINDS - 1);
    }

    private static boolean isStep(int number) {
        return within(number, 1, MAX_STEP);
    }

    private static boolean isTold(int number) {
        return within(number, MIN_TOLD, MAX_TOLD);
    }

    private static boolean isSheet(int k) {
        return within(k, 0, SHEETS - 1);
    }

    private static boolean isLane(int lane) {
        return within(lane, 0, LANES - 1);
    }

    private boolean hasCorner(int i) {
        return within(i, 0, now.corners - 1);
    }

    private boolean hasWheel(int w) {
        return within(w, 0, now.wheels - 1);
    }

    private boolean isMissing(int v, int w, int n) {
        return within(v, 0, MAX_ODDS) && hasWheel(w) && within(n, 0, MAX_MISSED);
    }

    private static int pair(int x, int y) {
        return 100 * x + y;
    }

    /** Why one more corner can not come: BAD, FULL; 0 if it can. */
    private static int refusalOfCorner(Layout layout, int x, int y) {
        if (!isPlace(x, y)) {
            return BAD;
        }
        return layout.corners >= MAX_CORNERS ? FULL : 0;
    }

    // ---- edges from now on

    private int rolledAhead(int n) {
        int rolled = 0;
        for (int edge = 0; edge < n; edge++) {
            rolled += now.rolledByAll(now.sweepAhead(edge));
        }
        return rolled;
    }

    private int idleAhead(int n) {
        if (now.corners == 0) {
            return 0;
        }
        int idle = 0;
        for (int edge = 0; edge < n; edge++) {
            if (now.someWheelRests(now.sweepAhead(edge))) {
                idle++;
            }
        }
        return idle;
    }

    private int greatestSweepAhead(int n) {
        if (n == 0 || now.corners == 0) {
            return NONE;
        }
        int greatest = now.sweepAhead(0);
        for (int edge = 1; edge < n; edge++) {
            greatest = Math.max(greatest, now.sweepAhead(edge));
        }
        return SWEEP_BASE + greatest;
    }

    // ---- edges that are missed or not: bit i of a row of traced ones is the i-th edge from now on

    private void setEdgeRolls(int w, int n) {
        for (int edge = 0; edge < n; edge++) {
            edgeRolls[edge] = now.rollOf(w, now.sweepAhead(edge));
        }
    }

    private int readsByTraced(int w, int n, int traced) {
        int reads = now.wheelReads[w];
        for (int edge = 0; edge < n; edge++) {
            if ((traced >> edge & 1) != 0) {
                reads += edgeRolls[edge];
            }
        }
        return reads;
    }

    /** Out of ten times ten .. (n of them). */
    private static long chancesOf(int v, int n, int traced) {
        long chances = 1;
        for (int edge = 0; edge < n; edge++) {
            chances *= (traced >> edge & 1) != 0 ? MAX_ODDS - v : v;
        }
        return chances;
    }

    private static long tenTimes(int n) {
        long product = 1;
        for (int i = 0; i < n; i++) {
            product *= MAX_ODDS;
        }
        return product;
    }

    private static long partOfFraction(long above, long below, int what) {
        long shared = commonDivisor(above, below);
        if (shared <= 0) {
            return BAD;
        }
        return (what == 0 ? above : below) / shared;
    }

    private static long commonDivisor(long a, long b) {
        long greater = a;
        long lesser = b;
        // Two longs need fewer than 100 rounds.
        for (int round = 0; round < 100 && lesser != 0; round++) {
            long rest = greater % lesser;
            greater = lesser;
            lesser = rest;
        }
        return greater;
    }

    // ---- steps told from what was read

    private int stepsAsSeen(int w) {
        trial.copyFrom(now);
        int bits = 0;
        for (int step = 1; step <= MAX_STEP; step++) {
            trial.wheelStep[w] = step;
            if (sightings.agreeWith(trial)) {
                bits |= 1 << step;
            }
        }
        return bits;
    }

    /** Of the steps left, how many at most read the same. */
    private int mostAlike(int left) {
        int most = 0;
        for (int step = 1; step <= MAX_STEP; step++) {
            if ((left >> step & 1) != 0) {
                most = Math.max(most, countAlike(left, readsByStep[step]));
            }
        }
        return most;
    }

    private int countAlike(int left, int reads) {
        int alike = 0;
        for (int step = 1; step <= MAX_STEP; step++) {
            if ((left >> step & 1) != 0 && readsByStep[step] == reads) {
                alike++;
            }
        }
        return alike;
    }

    private void rollEachStep(int kind, int sweep) {
        for (int step = 1; step <= MAX_STEP; step++) {
            readsByStep[step] += Layout.roll(kind, step, sweep);
        }
    }

    /** Corners, wheels, the pole, how many edges were traced: what a text tells and an image keeps. */
    private static final class Layout {
        final int[] cornerX = new int[MAX_CORNERS];
        final int[] cornerY = new int[MAX_CORNERS];
        int corners = 0;
        final int[] wheelKind = new int[MAX_WHEELS];
        final int[] wheelStep = new int[MAX_WHEELS];
        final int[] wheelReads = new int[MAX_WHEELS];
        int wheels = 0;
        int poleX = 0;
        int poleY = 0;
        int traced = 0;

        void clear() {
            corners = 0;
            wheels = 0;
            poleX = 0;
            poleY = 0;
            traced = 0;
        }

        void copyFrom(Layout other) {
            System.arraycopy(other.cornerX, 0, cornerX, 0, MAX_CORNERS);
            System.arraycopy(other.cornerY, 0, cornerY, 0, MAX_CORNERS);
            corners = other.corners;
            System.arraycopy(other.wheelKind, 0, wheelKind, 0, MAX_WHEELS);
            System.arraycopy(other.wheelStep, 0, wheelStep, 0, MAX_WHEELS);
            System.arraycopy(other.wheelReads, 0, wheelReads, 0, MAX_WHEELS);
            wheels = other.wheels;
            poleX = other.poleX;
            poleY = other.poleY;
            traced = other.traced;
        }

        void appendCorner(int x, int y) {
            if (corners < MAX_CORNERS) {
                cornerX[corners] = x;
                cornerY[corners] = y;
                corners++;
            }
        }

        void moveCorner(int i, int x, int y) {
            cornerX[i] = x;
            cornerY[i] = y;
        }

        void exchangeCorners(int i, int j) {
            int x = cornerX[i];
            int y = cornerY[i];
            moveCorner(i, cornerX[j], cornerY[j]);
            moveCorner(j, x, y);
        }

        void removeCorner(int i) {
            for (int next = i + 1; next < corners; next++) {
                moveCorner(next - 1, cornerX[next], cornerY[next]);
            }
            corners--;
        }

        void appendWheel(int kind, int step) {
            if (wheels < MAX_WHEELS) {
                wheelKind[wheels] = kind;
                wheelStep[wheels] = step;
                wheelReads[wheels] = 0;
                wheels++;
            }
        }

        void movePole(int x, int y) {
            poleX = x;
            poleY = y;
        }

        int sweepOf(int edge) {
            int behind = edge + 1 < corners ? edge + 1 : 0;
            int x1 = cornerX[edge] - poleX;
            int y1 = cornerY[edge] - poleY;
            int x2 = cornerX[behind] - poleX;
            int y2 = cornerY[behind] - poleY;
            return x1 * y2 - x2 * y1;
        }

        int area() {
            int sum = 0;
            for (int edge = 0; edge < corners; edge++) {
                sum += sweepOf(edge);
            }
            return sum;
        }

        int areaUnsigned() {
            return Math.abs(area());
        }

        /** The edge that is traced behind n others from now on; NONE without corners. */
        int edgeAhead(int n) {
            return corners == 0 ? NONE : (traced + n) % corners;
        }

        /** Without corners 0: no wheel rolls from that. */
        int sweepAhead(int n) {
            int edge = edgeAhead(n);
            return edge == NONE ? 0 : sweepOf(edge);
        }

        static int roll(int kind, int step, int sweep) {
            switch (kind) {
                case COARSE:
                    return step < 1 ? 0 : sweep / step * step;
                case STICK:
                    return Math.abs(sweep) < step ? 0 : sweep;
                case FREE:
                    return sweep < step ? 0 : sweep;
                default:
                    return sweep;
            }
        }

        int rollOf(int w, int sweep) {
            return roll(wheelKind[w], wheelStep[w], sweep);
        }

        /** By how much all wheels would roll, without signs. */
        int rolledByAll(int sweep) {
            int rolled = 0;
            for (int w = 0; w < wheels; w++) {
                rolled += Math.abs(rollOf(w, sweep));
            }
            return rolled;
        }

        /** All wheels roll and read: by how much, without signs. */
        int rollAll(int sweep) {
            for (int w = 0; w < wheels; w++) {
                wheelReads[w] += rollOf(w, sweep);
            }
            return rolledByAll(sweep);
        }

        boolean someWheelRests(int sweep) {
            for (int w = 0; w < wheels; w++) {
                if (rollOf(w, sweep) == 0) {
                    return true;
                }
            }
            return false;
        }

        int readsAhead(int w, int n) {
            int reads = wheelReads[w];
            for (int edge = 0; edge < n; edge++) {
                reads += rollOf(w, sweepAhead(edge));
            }
            return reads;
        }

        int shownBy(int w) {
            int reads = wheelReads[w];
            int step = wheelStep[w];
            switch (wheelKind[w]) {
                case COARSE:
                    return step < 1 ? 0 : reads / step;
                case FREE:
                    return 2 * reads;
                default:
                    return reads;
            }
        }

        int errorOf(int w) {
            int off = 0;
            for (int edge = 0; edge < corners; edge++) {
                int sweep = sweepOf(edge);
                off += rollOf(w, sweep) - sweep;
            }
            return Math.abs(off);
        }

        int sumOfSteps() {
            int sum = 0;
            for (int w = 0; w < wheels; w++) {
                sum += wheelStep[w];
            }
            return sum;
        }

        int sumOfPlaces() {
            int sum = 0;
            for (int i = 0; i < corners; i++) {
                sum += cornerX[i] + cornerY[i];
            }
            return sum;
        }
    }

    /** Bytes that wait to be read as a text, and the token of them that was read last. */
    private static final class Tape {
        static final int END = 0, NAME = 1, NUMBER = 2, SEMICOLON = 3, NO_TOKEN = 4;
        private static final int MAX_FIGURES = 2;

        private final byte[] bytes = new byte[MAX_TAPE];
        int size = 0;
        int token = END;
        int tokenFrom = 0;
        private int tokenTo = 0;

        void append(int c) {
            if (size < MAX_TAPE) {
                bytes[size] = (byte) c;
                size++;
            }
        }

        void rewind() {
            tokenTo = 0;
        }

        void nextToken() {
            tokenFrom = endOfRun(tokenTo, ' ', ' ');
            if (tokenFrom >= size) {
                token = END;
                return;
            }
            int first = bytes[tokenFrom];
            if (first >= 'a' && first <= 'z') {
                tokenTo = endOfRun(tokenFrom, 'a', 'z');
                token = NAME;
            } else if (first >= '0' && first <= '9') {
                tokenTo = endOfRun(tokenFrom, '0', '9');
                token = tokenTo - tokenFrom <= MAX_FIGURES ? NUMBER : NO_TOKEN;
            } else {
                tokenTo = tokenFrom + 1;
                token = first == ';' ? SEMICOLON : NO_TOKEN;
            }
        }

        /** Where the bytes from a place on are no more within two letters. */
        private int endOfRun(int from, char least, char most) {
            int to = from;
            while (to < size && bytes[to] >= least && bytes[to] <= most) {
                to++;
            }
            return to;
        }

        boolean tokenIs(String word) {
            int length = word.length();
            if (tokenTo - tokenFrom != length) {
                return false;
            }
            for (int i = 0; i < length; i++) {
                if (bytes[tokenFrom + i] != word.charAt(i)) {
                    return false;
                }
            }
            return true;
        }

        int numberOfToken() {
            int number = 0;
            for (int i = tokenFrom; i < tokenTo; i++) {
                number = 10 * number + bytes[i] - '0';
            }
            return number;
        }
    }

    /** Reads the tape as a text, token by token, until the first fault: from then on nothing is read. */
    private static final class TextReader {
        /** A line begins with the name of a kind, whose number is its word's, or with one of these. */
        private static final int AT = KINDS, POLE = KINDS + 1, NO_WORD = KINDS + 2;
        private static final int TOKEN_FAULT = 1, ORDER_FAULT = 2, BOUND_FAULT = 3, POLE_FAULT = 4, MANY_FAULT = 5;

        final Tape tape = new Tape();
        final Layout told = new Layout();
        private boolean poleTold = false;
        int lines = 0;
        int found = 0;
        int foundAt = 0;

        void readText() {
            tape.rewind();
            told.clear();
            poleTold = false;
            lines = 0;
            found = 0;
            foundAt = 0;
            // Each line takes some bytes, so there are fewer lines than bytes.
            for (int line = 0; line <= MAX_TAPE; line++) {
                advance();
                if (found != 0 || tape.token == Tape.END) {
                    return;
                }
                readLine();
                if (found != 0) {
                    return;
                }
                lines++;
            }
        }

        private void readLine() {
            int word = wordOfToken();
            refuse(faultOfWord(word));
            boolean isWheel = word < KINDS;
            int first = isWheel ? takeNumber(1, MAX_STEP) : takeNumber(0, MAX_PLACE);
            int second = isWheel ? 0 : takeNumber(0, MAX_PLACE);
            takeSemicolon();
            if (found == 0) {
                tell(word, first, second);
            }
        }

        private int wordOfToken() {
            for (int word = 0; word < NO_WORD && tape.token == Tape.NAME; word++) {
                if (tape.tokenIs(nameOf(word))) {
                    return word;
                }
            }
            return NO_WORD;
        }

        private static String nameOf(int word) {
            switch (word) {
                case PLAIN:
                    return "plain";
                case COARSE:
                    return "coarse";
                case STICK:
                    return "stick";
                case FREE:
                    return "free";
                case AT:
                    return "at";
                default:
                    return "pole";
            }
        }

        private int faultOfWord(int word) {
            switch (word) {
                case NO_WORD:
                    return ORDER_FAULT;
                case POLE:
                    return poleTold ? POLE_FAULT : 0;
                case AT:
                    return told.corners >= MAX_CORNERS ? MANY_FAULT : 0;
                default:
                    return told.wheels >= MAX_WHEELS ? MANY_FAULT : 0;
            }
        }

        private void tell(int word, int first, int second) {
            switch (word) {
                case POLE:
                    told.movePole(first, second);
                    poleTold = true;
                    break;
                case AT:
                    told.appendCorner(first, second);
                    break;
                default:
                    told.appendWheel(word, first);
                    break;
            }
        }

        private int takeNumber(int least, int most) {
            advance();
            if (tape.token != Tape.NUMBER) {
                refuse(ORDER_FAULT);
                return least;
            }
            int number = tape.numberOfToken();
            if (number < least || number > most) {
                refuse(BOUND_FAULT);
            }
            return number;
        }

        private void takeSemicolon() {
            advance();
            if (tape.token != Tape.SEMICOLON) {
                refuse(ORDER_FAULT);
            }
        }

        private void advance() {
            if (found == 0) {
                tape.nextToken();
                refuse(tape.token == Tape.NO_TOKEN ? TOKEN_FAULT : 0);
            }
        }

        /** Only the first fault counts (0 is none); its place is that of the token that was read last. */
        private void refuse(int fault) {
            if (found == 0) {
                found = fault;
                foundAt = tape.tokenFrom;
            }
        }
    }

    /** What was seen: behind so many edges from now on a wheel reads so much. */
    private static final class Sightings {
        private final int[] edges = new int[MAX_SEEN];
        private final int[] wheel = new int[MAX_SEEN];
        private final int[] reads = new int[MAX_SEEN];
        int size = 0;

        void append(int n, int w, int read) {
            if (size < MAX_SEEN) {
                edges[size] = n;
                wheel[size] = w;
                reads[size] = read;
                size++;
            }
        }

        boolean agreeWith(Layout layout) {
            for (int i = 0; i < size; i++) {
                if (wheel[i] >= layout.wheels || layout.readsAhead(wheel[i], edges[i]) != reads[i]) {
                    return false;
                }
            }
            return true;
        }
    }

    /** A row of cells of a lane, or nothing. */
    private static final class Sheet {
        private static final int BYTES = 0, SHORTS = 1;
        private static final int NOTHING = -1;

        final int[] cells = new int[MAX_CELLS];
        int lane = BYTES;
        int size = NOTHING;

        boolean isNothing() {
            return size == NOTHING;
        }

        void renew(int newLane, int n) {
            for (int i = 0; i < MAX_CELLS; i++) {
                cells[i] = 0;
            }
            lane = newLane;
            size = n;
        }

        void layCell(int i, int v) {
            if (lane == BYTES) {
                cells[i] = (byte) v;
            } else if (lane == SHORTS) {
                cells[i] = (short) v;
            } else {
                cells[i] = v;
            }
        }

        /** The fault of taking cell i as of a lane; nothing can be taken as of any lane, but has no cells. */
        int faultAt(int takenLane, int i) {
            if (isNothing()) {
                return NULL_FAULT;
            }
            if (takenLane != lane) {
                return CAST_FAULT;
            }
            return within(i, 0, size - 1) ? 0 : INDEX_FAULT;
        }

        int faultAtPair(int takenLane, int i) {
            int first = faultAt(takenLane, i);
            return first != 0 ? first : faultAt(takenLane, i + 1);
        }
    }
}

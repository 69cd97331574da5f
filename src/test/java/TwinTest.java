import java.math.BigInteger;
import java.util.ArrayList;
import java.util.Collections;
import java.util.HashMap;
import java.util.List;
import java.util.Map;
import java.util.Random;
import java.util.function.IntUnaryOperator;
import java.util.regex.Matcher;
import java.util.regex.Pattern;

/** Long runs of calls by a fixed seed, right and wrong ones, against a second program that was written another way. */
public final class TwinTest {
    private static final int ZERO = 20000000;
    private static final int RUNS = 600, CALLS = 512;

    record Corner(int x, int y) { }

    record Wheel(int kind, int step, int reads) {
        int rolls(int sweep) {
            int size = Math.abs(sweep);
            return switch (kind) {
                case 0 -> sweep;
                case 1 -> Integer.signum(sweep) * (size - size % step);
                case 2 -> size >= step ? sweep : 0;
                default -> size >= step && sweep > 0 ? sweep : 0;
            };
        }

        Wheel rolled(int sweep) {
            return new Wheel(kind, step, reads + rolls(sweep));
        }

        int shows() {
            return kind == 1 ? Integer.signum(reads) * (Math.abs(reads) / step) : kind == 3 ? reads + reads : reads;
        }
    }

    /** All that an image holds; never changed, only made anew. */
    record World(List<Corner> corners, List<Wheel> wheels, Corner pole, int traced) {
        static final World EMPTY = new World(List.of(), List.of(), new Corner(0, 0), 0);

        World withCorners(List<Corner> c) {
            return new World(List.copyOf(c), wheels, pole, traced);
        }

        World withWheels(List<Wheel> w) {
            return new World(corners, List.copyOf(w), pole, traced);
        }

        World withCorner(int i, Corner c) {
            List<Corner> all = new ArrayList<>(corners);
            all.set(i, c);
            return withCorners(all);
        }

        World withWheel(int i, Wheel w) {
            List<Wheel> all = new ArrayList<>(wheels);
            all.set(i, w);
            return withWheels(all);
        }

        World withPole(Corner p) {
            return new World(corners, wheels, p, traced);
        }

        int sweep(int i) {
            Corner a = corners.get(i);
            Corner b = corners.get((i + 1) % corners.size());
            return (a.x - pole.x) * (b.y - pole.y) - (b.x - pole.x) * (a.y - pole.y);
        }

        int area() {
            int sum = 0;
            for (int i = 0; i < corners.size(); i++) {
                sum += sweep(i);
            }
            return sum;
        }

        World rolled(int edge) {
            List<Wheel> all = new ArrayList<>();
            for (Wheel w : wheels) {
                all.add(w.rolled(sweep(edge)));
            }
            return withWheels(all);
        }

        World next(boolean missed) {
            World after = missed || corners.isEmpty() ? this : rolled(traced % corners.size());
            return new World(corners, after.wheels, pole, traced + 1);
        }

        World behind(int n) {
            World at = this;
            for (int i = 0; i < n; i++) {
                at = at.next(false);
            }
            return at;
        }

        int rolledTo(World after) {
            int sum = 0;
            for (int w = 0; w < wheels.size(); w++) {
                sum += Math.abs(after.wheels.get(w).reads - wheels.get(w).reads);
            }
            return sum;
        }

        int error(int w) {
            int sum = 0;
            for (int i = 0; i < corners.size(); i++) {
                sum += wheels.get(w).rolls(sweep(i));
            }
            return Math.abs(sum - area());
        }
    }

    record Sight(int n, int w, int reads) { }

    static final class Twin {
        World now = World.EMPTY;
        final World[] images = new World[2];
        final StringBuilder tape = new StringBuilder();
        final List<Sight> seen = new ArrayList<>();
        final Object[] sheets = new Object[4];
        int fault = 0;
        int torn = 0;

        private boolean noWheel(int w) {
            return w < 0 || w >= now.wheels.size();
        }

        private boolean noCorner(int i) {
            return i < 0 || i >= now.corners.size();
        }

        private static boolean no(int v, int least, int most) {
            return v < least || v > most;
        }

        long call(int m, int a, int b, int c, int d, int e) {
            return m < 7 ? telling(m, a, b) : m < 15 ? changing(m, a, b, c) : m < 25 ? asking(m, a, b, c)
                : m < 32 ? guessing(m, a, b, c, d, e) : m < 35 ? seeded(m, a, b, c) : sheets(m, a, b, c, d);
        }

        private long telling(int m, int a, int b) {
            switch (m) {
                case 0:
                    if (no(a, 0, 127)) {
                        return -1;
                    }
                    return tape.length() == 160 ? -3 : tape.append((char) a).length();
                case 1: {
                    if (no(a, 0, tape.length())) {
                        return -1;
                    }
                    int had = tape.length();
                    tape.setLength(a);
                    return had;
                }
                case 2:
                    return text();
                case 3:
                    return fault;
                case 4: {
                    int n = now.corners.size();
                    int[] all = {n, now.wheels.size(), now.traced, 100000 + now.area(),
                        n == 0 ? -4 : now.traced % n, now.pole.x, now.pole.y};
                    return no(a, 0, 6) ? -1 : all[a];
                }
                case 5:
                    if (noCorner(a) || no(b, 0, 2)) {
                        return -1;
                    }
                    return new int[] {now.corners.get(a).x, now.corners.get(a).y, 10000 + now.sweep(a)}[b];
                default: {
                    if (noWheel(a) || no(b, 0, 4)) {
                        return -1;
                    }
                    Wheel w = now.wheels.get(a);
                    return new int[] {w.kind, w.step, ZERO + w.reads, ZERO + w.shows(), now.error(a)}[b];
                }
            }
        }

        private static final Pattern TOKEN = Pattern.compile(" *([a-z]+|[0-9]+|;|[^ ]|$)", Pattern.DOTALL);
        private static final List<String> NAMES = List.of("plain", "coarse", "stick", "free", "at", "pole");

        /** All tokens first, the place of each behind it; faults of tokens are met when they are taken. */
        private long text() {
            List<String> tokens = new ArrayList<>();
            List<Integer> places = new ArrayList<>();
            Matcher matcher = TOKEN.matcher(tape);
            while (matcher.lookingAt()) {
                tokens.add(matcher.group(1));
                places.add(matcher.start(1));
                if (matcher.group(1).isEmpty()) {
                    break;
                }
                matcher.region(matcher.end(), tape.length());
            }
            tape.setLength(0);
            int at = 0;
            int lines = 0;
            int poles = 0;
            World told = World.EMPTY;
            String stage = "begin";
            String name = "";
            List<Integer> numbers = new ArrayList<>();
            for (; at < tokens.size(); at++) {
                String token = tokens.get(at);
                int found = 0;
                if (!token.matches("|[a-z]+|[0-9][0-9]?|;")) {
                    found = 1;
                } else if (stage.equals("begin")) {
                    if (token.isEmpty()) {
                        fault = 0;
                        now = told;
                        seen.clear();
                        images[0] = null;
                        images[1] = null;
                        return lines;
                    }
                    name = token;
                    numbers.clear();
                    stage = "numbers";
                    int word = NAMES.indexOf(name);
                    found = word < 0 ? 2 : word == 5 ? (poles++ > 0 ? 4 : 0)
                        : word == 4 ? (told.corners.size() == 10 ? 5 : 0) : told.wheels.size() == 4 ? 5 : 0;
                } else if (stage.equals("numbers")) {
                    if (!token.matches("[0-9]+")) {
                        found = 2;
                    } else {
                        int number = Integer.parseInt(token);
                        numbers.add(number);
                        boolean isWheel = NAMES.indexOf(name) < 4;
                        found = (isWheel ? no(number, 1, 9) : no(number, 0, 20)) ? 3 : 0;
                        stage = numbers.size() == (isWheel ? 1 : 2) ? "close" : "numbers";
                    }
                } else if (!token.equals(";")) {
                    found = 2;
                } else {
                    told = line(told, name, numbers);
                    lines++;
                    stage = "begin";
                }
                if (found != 0) {
                    fault = found;
                    return -10 - places.get(at);
                }
            }
            throw new IllegalStateException("a text without an end");
        }

        private static World line(World told, String name, List<Integer> numbers) {
            if (name.equals("pole")) {
                return told.withPole(new Corner(numbers.get(0), numbers.get(1)));
            }
            if (name.equals("at")) {
                List<Corner> all = new ArrayList<>(told.corners);
                all.add(new Corner(numbers.get(0), numbers.get(1)));
                return told.withCorners(all);
            }
            List<Wheel> all = new ArrayList<>(told.wheels);
            all.add(new Wheel(NAMES.indexOf(name), numbers.get(0), 0));
            return told.withWheels(all);
        }

        private long changing(int m, int a, int b, int c) {
            switch (m) {
                case 7: {
                    if (noWheel(a) || no(b, 0, 1) || (b == 0 ? no(c, 0, 3) : no(c, 1, 9))) {
                        return -1;
                    }
                    Wheel w = now.wheels.get(a);
                    now = now.withWheel(a, b == 0 ? new Wheel(c, w.step, w.reads) : new Wheel(w.kind, c, w.reads));
                    return b == 0 ? w.kind : w.step;
                }
                case 8: {
                    if (no(a, 0, 3) || no(b, 1, 9)) {
                        return -1;
                    }
                    if (now.wheels.size() == 4) {
                        return -3;
                    }
                    List<Wheel> all = new ArrayList<>(now.wheels);
                    all.add(new Wheel(a, b, 0));
                    now = now.withWheels(all);
                    return all.size();
                }
                case 9: {
                    int had = now.wheels.size();
                    if (no(a, 0, had)) {
                        return -1;
                    }
                    now = now.withWheels(now.wheels.subList(0, a));
                    return had;
                }
                case 10: {
                    if (noWheel(a)) {
                        return -1;
                    }
                    Wheel w = now.wheels.get(a);
                    now = now.withWheel(a, new Wheel(w.kind, w.step, 0));
                    return ZERO + w.reads;
                }
                case 11: {
                    if (noCorner(a) || no(b, 0, 20) || no(c, 0, 20)) {
                        return -1;
                    }
                    Corner had = now.corners.get(a);
                    now = now.withCorner(a, new Corner(b, c));
                    return 100 * had.x + had.y;
                }
                case 12:
                    return add(a, b);
                case 13: {
                    int had = now.corners.size();
                    if (no(a, 0, had)) {
                        return -1;
                    }
                    now = now.withCorners(now.corners.subList(0, a));
                    return had;
                }
                default: {
                    if (no(a, 0, 20) || no(b, 0, 20)) {
                        return -1;
                    }
                    Corner had = now.pole;
                    now = now.withPole(new Corner(a, b));
                    return 100 * had.x + had.y;
                }
            }
        }

        private int add(int x, int y) {
            if (no(x, 0, 20) || no(y, 0, 20)) {
                return -1;
            }
            if (now.corners.size() == 10) {
                return -3;
            }
            List<Corner> all = new ArrayList<>(now.corners);
            all.add(new Corner(x, y));
            now = now.withCorners(all);
            return all.size();
        }

        private long asking(int m, int a, int b, int c) {
            switch (m) {
                case 15: {
                    if (no(a, 0, 100)) {
                        return -1;
                    }
                    if (now.traced + a >= 10000) {
                        return -3;
                    }
                    int sum = 0;
                    for (int i = 0; i < a; i++) {
                        World next = now.next(false);
                        sum += now.rolledTo(next);
                        now = next;
                    }
                    return sum;
                }
                case 16:
                    return no(a, 0, 200) || no(b, 0, 2) ? -1 : runs(a)[b];
                case 17:
                    return noWheel(a) || no(b, 0, 200) ? -1 : ZERO + now.behind(b).wheels.get(a).reads;
                case 18: {
                    if (noWheel(a) || no(b, 10000000, 30000000)) {
                        return -1;
                    }
                    World at = now;
                    for (int n = 0; n <= 200; n++, at = at.next(false)) {
                        if (at.wheels.get(a).reads + ZERO >= b) {
                            return n;
                        }
                    }
                    return -4;
                }
                case 19:
                    return noWheel(a) || no(b, 0, 1) ? -1 : best(b, true, places(), v ->
                        -now.withPole(new Corner(v / 100, v % 100)).error(a));
                case 20: {
                    List<Integer> steps = new ArrayList<>();
                    for (int s = 9; s >= 1; s--) {
                        steps.add(s);
                    }
                    return noWheel(a) || no(b, 0, 1) ? -1 : best(b, true, steps, v ->
                        -now.withWheel(a, new Wheel(now.wheels.get(a).kind, v, 0)).error(a));
                }
                case 21:
                    return noWheel(a) || no(b, 0, 1) ? -1 : best(b, true, List.of(0, 1, 2, 3), v ->
                        -now.withWheel(a, new Wheel(v, now.wheels.get(a).step, 0)).error(a));
                case 22:
                    return noCorner(a) || no(b, 0, 1) ? -1 : best(b, true, places(), v ->
                        Math.abs(now.withCorner(a, new Corner(v / 100, v % 100)).area()));
                case 23:
                    return no(a, 0, 1) ? -1 : best(a, false, pairs(), v -> {
                        List<Corner> all = new ArrayList<>(now.corners);
                        Collections.swap(all, v / 10, v % 10);
                        return Math.abs(now.withCorners(all).area());
                    });
                default: {
                    List<Integer> numbers = new ArrayList<>();
                    for (int i = 0; i < now.corners.size(); i++) {
                        numbers.add(i);
                    }
                    return no(a, 0, 1) ? -1 : best(a, false, numbers, v -> {
                        List<Corner> all = new ArrayList<>(now.corners);
                        all.remove(v);
                        return Math.abs(now.withCorners(all).area());
                    });
                }
            }
        }

        private int[] runs(int n) {
            int sum = 0;
            int idle = 0;
            int greatest = Integer.MIN_VALUE;
            World at = now;
            for (int i = 0; i < n; i++) {
                World next = at.next(false);
                sum += at.rolledTo(next);
                if (!at.corners.isEmpty()) {
                    greatest = Math.max(greatest, at.sweep(at.traced % at.corners.size()));
                    for (int w = 0; w < at.wheels.size(); w++) {
                        if (at.wheels.get(w).reads == next.wheels.get(w).reads) {
                            idle++;
                            break;
                        }
                    }
                }
                at = next;
            }
            return new int[] {sum, idle, greatest == Integer.MIN_VALUE ? -4 : 10000 + greatest};
        }

        private static List<Integer> places() {
            List<Integer> all = new ArrayList<>();
            for (int v = 0; v <= 2020; v++) {
                if (v % 100 <= 20) {
                    all.add(v);
                }
            }
            return all;
        }

        private List<Integer> pairs() {
            List<Integer> all = new ArrayList<>();
            for (int v = 0; v < 100; v++) {
                if (v / 10 < v % 10 && v % 10 < now.corners.size()) {
                    all.add(v);
                }
            }
            return all;
        }

        /** The first of those that are worth most; if not always, only if it is worth more than the area as it is. */
        private int best(int what, boolean always, List<Integer> choices, IntUnaryOperator worth) {
            int most = always ? Integer.MIN_VALUE : Math.abs(now.area());
            int which = -4;
            for (int v : choices) {
                if (worth.applyAsInt(v) > most) {
                    most = worth.applyAsInt(v);
                    which = v;
                }
            }
            return which == -4 || what == 0 ? which : Math.abs(most);
        }

        private long guessing(int m, int a, int b, int c, int d, int e) {
            switch (m) {
                case 25:
                    if (no(a, 0, 10) || noWheel(b) || no(c, 10000000, 30000000) || no(d, 0, 8) || no(e, 0, 1)) {
                        return -1;
                    }
                    return part(chance(now, a, b, d, c), d, e);
                case 26:
                    if (no(a, 0, 10) || noWheel(b) || no(c, 0, 8) || no(d, 0, 1)) {
                        return -1;
                    }
                    return part(mean(now, a, b, c), c, d);
                case 27:
                    if (no(a, 0, 40) || noWheel(b) || no(c, 10000000, 30000000)) {
                        return -1;
                    }
                    if (seen.size() == 6) {
                        return -3;
                    }
                    seen.add(new Sight(a, b, c - ZERO));
                    return seen.size();
                case 28: {
                    int had = seen.size();
                    if (no(a, 0, had)) {
                        return -1;
                    }
                    seen.subList(a, had).clear();
                    return had;
                }
                case 29: {
                    if (noWheel(a)) {
                        return -1;
                    }
                    int bits = 0;
                    Wheel w = now.wheels.get(a);
                    for (int k = 0; k < 4; k++) {
                        bits += asSeen(now.withWheel(a, new Wheel(k, w.step, w.reads))) ? 1 << k : 0;
                    }
                    return bits;
                }
                case 30: {
                    int bits = 0;
                    for (int s : steps(a)) {
                        bits += 1 << s;
                    }
                    return noWheel(a) ? -1 : bits;
                }
                default:
                    return noWheel(a) || no(b, 0, 1) ? -1 : ask(a)[b];
            }
        }

        private List<Integer> steps(int a) {
            List<Integer> all = new ArrayList<>();
            for (int s = 1; s <= 9 && !noWheel(a); s++) {
                Wheel w = now.wheels.get(a);
                if (asSeen(now.withWheel(a, new Wheel(w.kind, s, w.reads)))) {
                    all.add(s);
                }
            }
            return all;
        }

        private boolean asSeen(World world) {
            for (Sight s : seen) {
                if (s.w >= world.wheels.size() || world.behind(s.n).wheels.get(s.w).reads != s.reads) {
                    return false;
                }
            }
            return true;
        }

        private int[] ask(int a) {
            List<Integer> left = steps(a);
            List<World> worlds = new ArrayList<>();
            for (int s : left) {
                Wheel w = now.wheels.get(a);
                worlds.add(now.withWheel(a, new Wheel(w.kind, s, w.reads)));
            }
            int[] found = {-4, -4};
            int fewest = left.size();
            for (int n = 0; n <= 40; n++) {
                Map<Integer, Integer> groups = new HashMap<>();
                for (int i = 0; i < worlds.size(); i++) {
                    groups.merge(worlds.get(i).wheels.get(a).reads, 1, Integer::sum);
                    worlds.set(i, worlds.get(i).next(false));
                }
                int worst = groups.isEmpty() ? 0 : Collections.max(groups.values());
                if (worst < fewest) {
                    fewest = worst;
                    found = new int[] {n, worst};
                }
            }
            return found;
        }

        private static BigInteger chance(World at, int v, int w, int n, int e) {
            if (n == 0) {
                return at.wheels.get(w).reads >= e - ZERO ? BigInteger.ONE : BigInteger.ZERO;
            }
            return chance(at.next(true), v, w, n - 1, e).multiply(BigInteger.valueOf(v))
                .add(chance(at.next(false), v, w, n - 1, e).multiply(BigInteger.valueOf(10 - v)));
        }

        private static BigInteger mean(World at, int v, int w, int n) {
            if (n == 0) {
                return BigInteger.valueOf(at.wheels.get(w).reads).abs();
            }
            return mean(at.next(true), v, w, n - 1).multiply(BigInteger.valueOf(v))
                .add(mean(at.next(false), v, w, n - 1).multiply(BigInteger.valueOf(10 - v)));
        }

        private static long part(BigInteger above, int n, int what) {
            BigInteger below = BigInteger.TEN.pow(n);
            return (what == 0 ? above : below).divide(above.gcd(below)).longValueExact();
        }

        private long seeded(int m, int a, int b, int c) {
            switch (m) {
                case 32: {
                    if (no(b, 1, 200) || no(c, 0, 1)) {
                        return -1;
                    }
                    if (now.wheels.isEmpty() || now.corners.isEmpty()) {
                        return -2;
                    }
                    BigInteger seed = BigInteger.valueOf(a);
                    World at = now;
                    int sum = 0;
                    for (int i = 0; i < b; i++) {
                        seed = seed.multiply(BigInteger.valueOf(1103515245)).add(BigInteger.valueOf(12345));
                        int got = seed.shiftRight(16).and(BigInteger.valueOf(0x7fff)).intValueExact();
                        World next = at.rolled(got % at.corners.size());
                        sum += at.rolledTo(next);
                        at = next;
                    }
                    return c == 0 ? ZERO + at.wheels.get(0).reads : sum;
                }
                case 33: {
                    if (no(a, 0, 1)) {
                        return -1;
                    }
                    int was = images[a] == null ? 0 : 1;
                    images[a] = now;
                    return was;
                }
                default:
                    if (no(a, 0, 1)) {
                        return -1;
                    }
                    if (images[a] == null) {
                        return -2;
                    }
                    now = images[a];
                    return now.traced;
            }
        }

        /** Here the machine itself may find the faults: this is no part of the class. */
        private long sheets(int m, int a, int b, int c, int d) {
            switch (m) {
                case 35:
                    if (no(a, 0, 3) || no(b, 0, 2) || c > 40) {
                        return -1;
                    }
                    try {
                        sheets[a] = b == 0 ? new byte[c] : b == 1 ? new short[c] : new int[c];
                        return 1;
                    } catch (NegativeArraySizeException found) {
                        return -14;
                    }
                case 36:
                    if (no(a, 0, 3)) {
                        return -1;
                    }
                    try {
                        lay(sheets[a], b, c);
                        return 1;
                    } catch (NullPointerException found) {
                        return -11;
                    } catch (ArrayIndexOutOfBoundsException found) {
                        return -12;
                    }
                case 37:
                    return no(a, 0, 3) || no(b, 0, 2) || no(d, 0, 20) ? -1 : read(sheets[a], b, c, d);
                case 38:
                    return torn;
                default: {
                    Object s = sheets[0];
                    int cells = s == null ? -4 : java.lang.reflect.Array.getLength(s);
                    int[] all = {seen.size(), (images[0] == null ? 0 : 1) + (images[1] == null ? 0 : 1), tape.length(), cells,
                        now.wheels.stream().mapToInt(Wheel::step).sum(), now.corners.stream().mapToInt(p -> p.x + p.y).sum()};
                    return no(a, 0, 5) ? -1 : all[a];
                }
            }
        }

        private static void lay(Object s, int i, int v) {
            if (s instanceof byte[] row) {
                row[i] = (byte) v;
            } else if (s instanceof short[] row) {
                row[i] = (short) v;
            } else {
                ((int[]) s)[i] = v;
            }
        }

        private static int cell(Object s, int lane, int i) {
            return lane == 0 ? ((byte[]) s)[i] : lane == 1 ? ((short[]) s)[i] : ((int[]) s)[i];
        }

        private int read(Object s, int lane, int f, int n) {
            World before = now;
            int found = 0;
            int came = 0;
            try {
                for (int i = 0; i < n; i++) {
                    int x = cell(s, lane, f + 2 * i);
                    int y = cell(s, lane, f + 2 * i + 1);
                    if (add(x, y) < 0) {
                        now = before;
                        return -20 - i;
                    }
                    came++;
                }
            } catch (NullPointerException e) {
                found = 1;
            } catch (ArrayIndexOutOfBoundsException e) {
                found = 2;
            } catch (ClassCastException e) {
                found = 3;
            }
            torn = found;
            return came;
        }
    }

    private static final String[] METHODS = {"feed", "end", "text", "fault", "rule", "corner", "wheel", "alter", "put", "cut",
        "zero", "shift", "add", "drop", "pole", "trace", "runs", "ahead", "when", "best", "step", "kind", "place", "swap", "out",
        "luck", "mean", "see", "forget", "kinds", "steps", "ask", "drift", "keep", "back", "sheet", "lay", "read", "torn", "count"};

    private static long real(WheelAreas x, int m, int a, int b, int c, int d, int e) {
        return switch (m) {
            case 0 -> x.feed(a);
            case 1 -> x.end(a);
            case 2 -> x.text();
            case 3 -> x.fault();
            case 4 -> x.rule(a);
            case 5 -> x.corner(a, b);
            case 6 -> x.wheel(a, b);
            case 7 -> x.alter(a, b, c);
            case 8 -> x.put(a, b);
            case 9 -> x.cut(a);
            case 10 -> x.zero(a);
            case 11 -> x.shift(a, b, c);
            case 12 -> x.add(a, b);
            case 13 -> x.drop(a);
            case 14 -> x.pole(a, b);
            case 15 -> x.trace(a);
            case 16 -> x.runs(a, b);
            case 17 -> x.ahead(a, b);
            case 18 -> x.when(a, b);
            case 19 -> x.best(a, b);
            case 20 -> x.step(a, b);
            case 21 -> x.kind(a, b);
            case 22 -> x.place(a, b);
            case 23 -> x.swap(a);
            case 24 -> x.out(a);
            case 25 -> x.luck(a, b, c, d, e);
            case 26 -> x.mean(a, b, c, d);
            case 27 -> x.see(a, b, c);
            case 28 -> x.forget(a);
            case 29 -> x.kinds(a);
            case 30 -> x.steps(a);
            case 31 -> x.ask(a, b);
            case 32 -> x.drift(a, b, c);
            case 33 -> x.keep(a);
            case 34 -> x.back(a);
            case 35 -> x.sheet(a, b, c);
            case 36 -> x.lay(a, b, c);
            case 37 -> x.read(a, b, c, d);
            case 38 -> x.torn();
            default -> x.count(a);
        };
    }

    /** What each argument may be, one letter each; the small letters in between() say what they stand for. */
    private static final String[] SHAPES = {"B", "T", "", "", "7", "ch", "w5", "wht", "ks", "W", "w", "cpp", "pp", "C", "pp", "r",
        "nh", "wn", "wv", "wh", "wh", "wh", "ch", "h", "h", "owvmh", "owmh", "gwv", "G", "w", "w", "wh", "*nh", "h", "h", "LlN",
        "LiV", "Llid", "", "6"};

    private static int pick(Random random, char shape, Twin twin) {
        if (random.nextInt(60) == 0) {
            int[] odd = {Integer.MIN_VALUE, Integer.MAX_VALUE, -1, -2, 1000, 1 << 30, Integer.MAX_VALUE - 1};
            return odd[random.nextInt(odd.length)];
        }
        int wheels = twin.now.wheels().size();
        int corners = twin.now.corners().size();
        switch (shape) {
            case 'B': return random.nextInt(130) - 1;
            case 'T': return random.nextInt(twin.tape.length() + 2);
            case '7': return random.nextInt(8);
            case '6': return random.nextInt(7);
            case '5': return random.nextInt(6);
            case 'c': return random.nextInt(corners + 1);
            case 'C': return corners - random.nextInt(2);
            case 'w': return random.nextInt(Math.max(1, wheels + (random.nextInt(8) == 0 ? 1 : 0)));
            case 'W': return wheels - random.nextInt(2);
            case 'h': return random.nextInt(3) - (random.nextInt(9) == 0 ? 1 : 0);
            case 't': return random.nextInt(11);
            case 'k': return random.nextInt(5);
            case 's': return random.nextInt(11);
            case 'p': return random.nextInt(23) - 1;
            case 'r': return random.nextInt(6) == 0 ? random.nextInt(103) : random.nextInt(6);
            case 'n': return random.nextInt(3) == 0 ? random.nextInt(203) : random.nextInt(9);
            case 'v': return likely(random, twin);
            case 'o': return random.nextInt(12);
            case 'm': return random.nextInt(10);
            case 'g': return random.nextInt(4) == 0 ? random.nextInt(43) : random.nextInt(5);
            case 'G': return twin.seen.size() - random.nextInt(3);
            case 'L': return random.nextInt(9) == 0 ? 4 : random.nextInt(4);
            case 'l': return random.nextInt(9) == 0 ? 3 : random.nextInt(3);
            case 'N': return random.nextInt(44) - 2;
            case 'i': return random.nextInt(12) - 1;
            case 'd': return random.nextInt(5) == 0 ? random.nextInt(23) : random.nextInt(4);
            case 'V': return random.nextInt(4) == 0 ? random.nextInt() : random.nextInt(21) + (random.nextInt(9) == 0 ? 1 << 16 : 0);
            default: return random.nextInt();
        }
    }

    /** What some wheel reads soon, so that what is seen is often so. */
    private static int likely(Random random, Twin twin) {
        int wheels = twin.now.wheels().size();
        if (wheels == 0 || random.nextInt(12) == 0) {
            return random.nextInt(3) * 10000000 + 10000000 + random.nextInt(3) - 1;
        }
        int reads = twin.now.behind(random.nextInt(5)).wheels().get(random.nextInt(wheels)).reads();
        return ZERO + reads + (random.nextInt(4) == 0 ? random.nextInt(3) - 1 : 0);
    }

    private static String line(Random random) {
        int what = random.nextInt(14);
        String name = Twin.NAMES.get(what < 4 ? what : what < 12 ? 4 : 5);
        String text = name + " ".repeat(random.nextInt(3)) + number(random, what < 4 ? 9 : 20);
        if (what >= 4) {
            text += " " + number(random, 20);
        }
        text += " ".repeat(random.nextInt(6) / 5) + ";";
        if (random.nextInt(25) == 0) {
            int at = random.nextInt(text.length());
            String[] odd = {"", ";", " ", "0", "!", "at", "99", "\n", "123", "Q"};
            text = text.substring(0, at) + odd[random.nextInt(odd.length)] + text.substring(at + random.nextInt(2));
        }
        return text;
    }

    private static String number(Random random, int most) {
        int number = random.nextInt(20) == 0 ? random.nextInt(120) : 1 + random.nextInt(most);
        return number < 10 && random.nextInt(8) == 0 ? "0" + number : "" + number;
    }

    /** Calls that take away are fewer, so that there is something to ask for. */
    private static int pickMethod(Random random) {
        int m = random.nextInt(METHODS.length);
        boolean takesAway = m <= 2 || m == 9 || m == 13;
        return takesAway && random.nextInt(12) != 0 ? new int[] {8, 12, 12, 12, 15, 27, 31}[random.nextInt(7)] : m;
    }

    public static void main(String[] args) {
        int wrong = 0;
        long calls = 0;
        for (int run = 0; run < RUNS && wrong < 10; run++) {
            Random random = new Random(run);
            WheelAreas x = new WheelAreas();
            Twin twin = new Twin();
            StringBuilder log = new StringBuilder();
            String pending = "";
            for (int n = 0; n < CALLS; n++) {
                int m = pickMethod(random);
                int[] a = new int[5];
                if (pending.isEmpty() && (n == 0 || random.nextInt(300) == 0)) {
                    StringBuilder text = new StringBuilder();
                    for (int lines = random.nextInt(15); lines >= 0; lines--) {
                        text.append(line(random));
                    }
                    pending = text.append('\0').toString();
                }
                if (!pending.isEmpty()) {
                    m = pending.charAt(0) == '\0' ? 2 : 0;
                    a[0] = pending.charAt(0);
                    pending = pending.substring(1);
                } else {
                    for (int i = 0; i < SHAPES[m].length(); i++) {
                        a[i] = pick(random, SHAPES[m].charAt(i), twin);
                    }
                }
                long want = twin.call(m, a[0], a[1], a[2], a[3], a[4]);
                long got = real(x, m, a[0], a[1], a[2], a[3], a[4]);
                calls++;
                log.append(METHODS[m]).append(java.util.Arrays.toString(a)).append(" -> ").append(got).append('\n');
                if (got != want) {
                    wrong++;
                    System.out.println("run " + run + ", due is " + want + ":\n" + log.substring(Math.max(0, log.length() - 600)));
                    break;
                }
            }
        }
        System.out.println(calls + " calls, " + wrong + " runs not as due");
        if (wrong != 0) {
            System.exit(1);
        }
    }
}

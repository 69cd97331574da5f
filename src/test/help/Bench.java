import java.util.IdentityHashMap;
import java.util.List;
import java.util.Map;

/** What the tests of boundaries share: sentences of the document, states to call in, looks at all that an object holds. */
abstract class Bench {
    static final int BAD = -1, STATE = -2, FULL = -3, NONE = -4;
    static final int MIN = Integer.MIN_VALUE, MAX = Integer.MAX_VALUE;
    static final int ZERO = 20000000;
    static final int LEAST_TOLD = 10000000, MOST_TOLD = 30000000;

    interface Deed {
        void on(WheelAreas x);
    }

    interface Ask {
        long of(WheelAreas x);
    }

    interface Look {
        String at(WheelAreas x);
    }

    private static String promise = "";
    private static String words = "";
    private static int sentences = 0;
    private static int asked = 0;
    private static int wrong = 0;

    /** A sentence of the document that names a boundary, with the test of its own. */
    static void sentence(String ofPromise, String itsWords, Runnable test) {
        promise = ofPromise;
        words = itsWords;
        sentences++;
        test.run();
    }

    static void finish() {
        System.out.println(sentences + " sentences, " + asked + " answers, " + wrong + " not as due");
        if (wrong != 0) {
            System.exit(1);
        }
    }

    private static void tellWrong(String what) {
        wrong++;
        System.out.println("[" + promise + ": " + words + "] " + what);
    }

    static void due(String call, long got, long want) {
        asked++;
        if (got != want) {
            tellWrong(call + " answered " + got + ", due is " + want);
        }
    }

    static void same(String what, String got, String want) {
        asked++;
        if (!got.equals(want)) {
            tellWrong(what + ": " + got + ", due is " + want);
        }
    }

    // ---- calls by name, so that one of their numbers can be changed

    static long call(WheelAreas x, String name, int... a) {
        return switch (name) {
            case "feed" -> x.feed(a[0]);
            case "end" -> x.end(a[0]);
            case "text" -> x.text();
            case "fault" -> x.fault();
            case "rule" -> x.rule(a[0]);
            case "corner" -> x.corner(a[0], a[1]);
            case "wheel" -> x.wheel(a[0], a[1]);
            case "alter" -> x.alter(a[0], a[1], a[2]);
            case "put" -> x.put(a[0], a[1]);
            case "cut" -> x.cut(a[0]);
            case "zero" -> x.zero(a[0]);
            case "shift" -> x.shift(a[0], a[1], a[2]);
            case "add" -> x.add(a[0], a[1]);
            case "drop" -> x.drop(a[0]);
            case "pole" -> x.pole(a[0], a[1]);
            case "trace" -> x.trace(a[0]);
            case "runs" -> x.runs(a[0], a[1]);
            case "ahead" -> x.ahead(a[0], a[1]);
            case "when" -> x.when(a[0], a[1]);
            case "best" -> x.best(a[0], a[1]);
            case "step" -> x.step(a[0], a[1]);
            case "kind" -> x.kind(a[0], a[1]);
            case "place" -> x.place(a[0], a[1]);
            case "swap" -> x.swap(a[0]);
            case "out" -> x.out(a[0]);
            case "luck" -> x.luck(a[0], a[1], a[2], a[3], a[4]);
            case "mean" -> x.mean(a[0], a[1], a[2], a[3]);
            case "see" -> x.see(a[0], a[1], a[2]);
            case "forget" -> x.forget(a[0]);
            case "kinds" -> x.kinds(a[0]);
            case "steps" -> x.steps(a[0]);
            case "ask" -> x.ask(a[0], a[1]);
            case "drift" -> x.drift(a[0], a[1], a[2]);
            case "keep" -> x.keep(a[0]);
            case "back" -> x.back(a[0]);
            case "sheet" -> x.sheet(a[0], a[1], a[2]);
            case "lay" -> x.lay(a[0], a[1], a[2]);
            case "read" -> x.read(a[0], a[1], a[2], a[3]);
            case "torn" -> x.torn();
            case "count" -> x.count(a[0]);
            default -> throw new IllegalArgumentException(name);
        };
    }

    private static String written(String name, int... a) {
        StringBuilder text = new StringBuilder(name).append('(');
        for (int i = 0; i < a.length; i++) {
            text.append(i == 0 ? "" : ", ").append(a[i]);
        }
        return text.append(')').toString();
    }

    private static int[] changed(int[] numbers, int at, int v) {
        int[] all = numbers.clone();
        all[at] = v;
        return all;
    }

    // ---- what is taken, what is refused

    static void dueOf(Deed state, long want, String name, int... a) {
        due(written(name, a), call(made(state), name, a), want);
    }

    static void taken(Deed state, String name, int... a) {
        long got = call(made(state), name, a);
        asked++;
        if (got == BAD || got == STATE || got == FULL) {
            tellWrong(written(name, a) + " is refused by " + got);
        }
    }

    /** The call is refused by that answer, and then all is as it would be without it. */
    static void refused(Deed state, long answer, String name, int... a) {
        dueOf(state, answer, name, a);
        unchanged(state, name, a);
    }

    static void unchanged(Deed state, String name, int... a) {
        List<String> before = looksOf(state);
        for (int i = 0; i < LOOKS.size(); i++) {
            WheelAreas x = made(state);
            call(x, name, a);
            same("behind " + written(name, a), LOOKS.get(i).at(x), before.get(i));
        }
    }

    /** One of the call's numbers: the last that are taken and the first that are BAD, on both sides, the others being good. */
    static void bounds(Deed state, int at, int least, int most, String name, int... good) {
        taken(state, name, changed(good, at, least));
        taken(state, name, changed(good, at, most));
        tooLittle(state, at, least, name, good);
        tooMuch(state, at, most, name, good);
    }

    static void tooLittle(Deed state, int at, int least, String name, int... good) {
        refused(state, BAD, name, changed(good, at, least - 1));
        refused(state, BAD, name, changed(good, at, MIN));
    }

    static void tooMuch(Deed state, int at, int most, String name, int... good) {
        refused(state, BAD, name, changed(good, at, most + 1));
        refused(state, BAD, name, changed(good, at, MAX));
    }

    // ---- states

    static WheelAreas made(Deed state) {
        WheelAreas x = new WheelAreas();
        state.on(x);
        return x;
    }

    static Deed then(Deed first, Deed second) {
        return x -> {
            first.on(x);
            second.on(x);
        };
    }

    static void feedAll(WheelAreas x, String text) {
        for (int i = 0; i < text.length(); i++) {
            x.feed(text.charAt(i));
        }
    }

    static Deed told(String text) {
        return x -> {
            feedAll(x, text);
            x.text();
        };
    }

    static void layAll(WheelAreas x, int k, int lane, int size, int... cells) {
        x.sheet(k, lane, size);
        for (int i = 0; i < cells.length; i++) {
            x.lay(k, i, cells[i]);
        }
    }

    static void traceAll(WheelAreas x, int n) {
        for (int left = n; left > 0; left -= 100) {
            x.trace(Math.min(left, 100));
        }
    }

    static final Deed NEW = x -> { };

    /** Sweeps 20, 70, 80, 30; area 200. */
    static final String SQUARE = "at 0 0;at 10 0;at 10 10;at 0 10;pole 3 2;";
    static final String WHEELS = "plain 1;coarse 9;stick 9;free 4;";

    /** Some of all there can be: 4 corners, 3 wheels, 2 seen, an image, three sheets, a tape, a fault, a torn sheet. */
    static final Deed SOME = x -> {
        told("plain 1;coarse 9;stick 9;" + SQUARE).on(x);
        told("at 21").on(x);
        x.trace(3);
        x.keep(0);
        x.trace(2);
        x.see(1, 1, ZERO + 198 + 63);
        x.see(2, 0, ZERO + 220 + 150);
        layAll(x, 0, 0, 4, 1, 2, 3, 4);
        layAll(x, 1, 1, 6, 5, 6, 7, 8, 9, 10);
        layAll(x, 2, 2, 5, 11, 12, 13, 14, 15);
        x.read(1, 0, 0, 1);
        feedAll(x, "plain 7;at 3 4;");
    };

    /** All full: 10 corners, 4 wheels, 6 seen, both images, four sheets of 40 cells, a tape of 160 bytes. */
    static final Deed ALL = x -> {
        told(WHEELS + SQUARE + "at 9 9;at 8 8;at 7 7;at 6 6;at 5 5;at 4 4;").on(x);
        x.trace(7);
        x.keep(0);
        x.trace(8);
        x.keep(1);
        for (int i = 0; i < 6; i++) {
            x.see(0, i % 4, x.wheel(i % 4, 2));
        }
        layAll(x, 0, 0, 40, 1, 2, 3, 4);
        layAll(x, 1, 1, 40, 5, 6, 7, 8);
        layAll(x, 2, 2, 40, 9, 10);
        layAll(x, 3, 0, 40, 11, 12);
        feedAll(x, "plain 7;at 3 4;" + " ".repeat(145));
    };

    // ---- looks: each is taken at an object of its own, for it changes it

    private static final List<Look> LOOKS = List.of(Bench::now, Bench::seen, Bench::images, Bench::tape,
        x -> sheet(x, 0), x -> sheet(x, 1), x -> sheet(x, 2), x -> sheet(x, 3));
    private static final Map<Deed, List<String>> LOOKED = new IdentityHashMap<>();

    private static List<String> looksOf(Deed state) {
        return LOOKED.computeIfAbsent(state, s -> LOOKS.stream().map(look -> look.at(made(s))).toList());
    }

    static String now(WheelAreas x) {
        StringBuilder all = new StringBuilder("rules");
        for (int what = 0; what <= 6; what++) {
            all.append(' ').append(x.rule(what));
        }
        all.append(corners(x)).append(" wheels");
        for (int w = 0; w < 4; w++) {
            all.append(' ').append(x.wheel(w, 0)).append(',').append(x.wheel(w, 1)).append(',').append(x.wheel(w, 2));
        }
        all.append(" counts");
        for (int what = 0; what <= 5; what++) {
            all.append(' ').append(x.count(what));
        }
        return all.append(" faults ").append(x.fault()).append(' ').append(x.torn()).toString();
    }

    private static String corners(WheelAreas x) {
        StringBuilder all = new StringBuilder(" corners");
        for (int i = 0; i < 10; i++) {
            all.append(' ').append(x.corner(i, 0)).append(',').append(x.corner(i, 1));
        }
        return all.toString();
    }

    /** What was seen is told by what the first n of it leave, for each n. */
    private static String seen(WheelAreas x) {
        StringBuilder all = new StringBuilder("seen");
        for (int n = x.count(0); n >= 0; n--) {
            x.forget(n);
            for (int w = 0; w < 4; w++) {
                all.append(' ').append(x.kinds(w)).append(',').append(x.steps(w));
            }
        }
        return all.toString();
    }

    private static String images(WheelAreas x) {
        return "image " + x.back(0) + " " + now(x) + " image " + x.back(1) + " " + now(x);
    }

    private static String tape(WheelAreas x) {
        return "text " + x.text() + " " + now(x);
    }

    private static String sheet(WheelAreas x, int k) {
        StringBuilder all = new StringBuilder("sheet " + k);
        for (int lane = 0; lane <= 2; lane++) {
            for (int f = 0; f <= 20; f += 20) {
                x.drop(0);
                all.append(" lane ").append(lane).append(' ').append(x.read(k, lane, f, 10)).append(' ').append(x.torn());
                all.append(corners(x));
            }
        }
        all.append(" cells");
        for (int i = 0; i <= 40; i++) {
            all.append(' ').append(x.lay(k, i, 0));
        }
        return all.toString();
    }
}

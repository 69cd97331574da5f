import java.util.Arrays;

/** For each promise: ordinary inputs, the edges that the document names, wrong inputs; what is due was reckoned by hand. */
public final class PromisesTest {
    private static final int BAD = -1, STATE = -2, FULL = -3, NONE = -4;
    private static final int MIN = Integer.MIN_VALUE, MAX = Integer.MAX_VALUE;
    private static final int ZERO = 20000000;

    /** A square about a pole inside it: sweeps 20, 70, 80, 30; area 200. */
    private static final String SQUARE = "plain 1;coarse 9;stick 9;free 4;at 0 0;at 10 0;at 10 10;at 0 10;pole 3 2;";
    /** The same square the other way round: sweeps -80, -70, -20, -30; area -200. */
    private static final String TURNED = "plain 1;coarse 9;stick 9;free 4;at 0 10;at 10 10;at 10 0;at 0 0;pole 3 2;";
    /** Sweeps 0, 5, 0 about the pole 0, 0; area 5. */
    private static final String SMALL = "coarse 3;stick 6;free 5;at 0 0;at 2 1;at 1 3;";

    private static int wrong = 0;
    private static int asked = 0;

    private static void due(String call, long got, long want) {
        asked++;
        if (got != want) {
            wrong++;
            System.out.println(call + " answered " + got + ", due is " + want);
        }
    }

    private static void feedAll(WheelAreas x, String text) {
        for (int i = 0; i < text.length(); i++) {
            x.feed(text.charAt(i));
        }
    }

    private static WheelAreas told(String text) {
        WheelAreas x = new WheelAreas();
        feedAll(x, text);
        int lines = (int) text.chars().filter(c -> c == ';').count();
        due("text of " + text, x.text(), lines);
        return x;
    }

    /** All that can be asked of what is there, so that two states can be compared. */
    private static String state(WheelAreas x) {
        StringBuilder all = new StringBuilder();
        for (int what = 0; what <= 6; what++) {
            all.append(x.rule(what)).append(' ');
        }
        for (int i = 0; i < 10; i++) {
            all.append(x.corner(i, 0)).append(',').append(x.corner(i, 1)).append(' ');
        }
        for (int w = 0; w < 4; w++) {
            all.append(x.wheel(w, 0)).append(',').append(x.wheel(w, 1)).append(',').append(x.wheel(w, 2)).append(' ');
            all.append(x.kinds(w)).append(',').append(x.steps(w)).append(' ');
        }
        for (int what = 0; what <= 5; what++) {
            all.append(x.count(what)).append(' ');
        }
        return all.append(x.fault()).append(' ').append(x.torn()).toString();
    }

    private static void same(String what, String got, String want) {
        asked++;
        if (!got.equals(want)) {
            wrong++;
            System.out.println(what + ": the state is " + got + ", due is " + want);
        }
    }

    public static void main(String[] args) {
        promise1();
        promises2and3();
        promises4and5();
        faultsOfTexts();
        promise6();
        promise7();
        promise8();
        promises9to12();
        promises13to16();
        promise17();
        promise18();
        promises19and20();
        promise21();
        promises22and23();
        promise24();
        promise25();
        promise26();
        promise27();
        promise28();
        promises29to32();
        promise33();
        promise34();
        promises35and36();
        promises37and38();
        promises39and40();
        promise41();
        System.out.println(asked + " answers, " + wrong + " not as due");
        if (wrong != 0) {
            System.exit(1);
        }
    }

    private static void promise1() {
        WheelAreas x = new WheelAreas();
        int[] rules = {0, 0, 0, 100000, NONE, 0, 0, BAD};
        for (int what = 0; what < rules.length; what++) {
            due("new rule(" + what + ")", x.rule(what), rules[what]);
        }
        int[] counts = {0, 0, 0, NONE, 0, 0, BAD};
        for (int what = 0; what < counts.length; what++) {
            due("new count(" + what + ")", x.count(what), counts[what]);
        }
        due("new fault", x.fault(), 0);
        due("new torn", x.torn(), 0);
        for (int k = 0; k < 4; k++) {
            due("new lay", x.lay(k, 0, 1), -11);
        }
        due("new back(0)", x.back(0), STATE);
        due("new back(1)", x.back(1), STATE);
    }

    private static void promises2and3() {
        WheelAreas x = new WheelAreas();
        due("feed(-1)", x.feed(-1), BAD);
        due("feed(128)", x.feed(128), BAD);
        due("feed(MIN)", x.feed(MIN), BAD);
        due("feed(0)", x.feed(0), 1);
        due("feed(127)", x.feed(127), 2);
        due("end(3)", x.end(3), BAD);
        due("end(-1)", x.end(-1), BAD);
        due("end(2)", x.end(2), 2);
        due("end(1)", x.end(1), 2);
        due("count(2)", x.count(2), 1);
        due("end(0)", x.end(0), 1);
        due("end(0)", x.end(0), 0);
        due("end(1)", x.end(1), BAD);
        for (int n = 1; n <= 160; n++) {
            due("feed", x.feed(32), n);
        }
        due("feed of the 161st", x.feed(32), FULL);
        due("feed of a wrong 161st", x.feed(128), BAD);
        due("count(2)", x.count(2), 160);
        due("text of blanks", x.text(), 0);
        due("count(2)", x.count(2), 0);
        feedAll(x, "plain 1;plain 2;");
        due("end(8)", x.end(8), 16);
        due("text", x.text(), 1);
        due("wheels", x.rule(1), 1);
        due("step", x.wheel(0, 1), 1);
    }

    private static void promises4and5() {
        WheelAreas x = told(SQUARE);
        due("corners", x.rule(0), 4);
        due("wheels", x.rule(1), 4);
        due("fault", x.fault(), 0);
        x.trace(3);
        x.see(1, 0, ZERO);
        x.keep(0);
        x.keep(1);
        x.sheet(0, 2, 5);
        x.read(0, 1, 0, 1);
        feedAll(x, "plain 1;oops");
        String before = state(x);
        due("text with a fault", x.text(), -18);
        due("fault", x.fault(), 2);
        due("the tape is empty", x.count(2), 0);
        due("seen stays", x.count(0), 1);
        due("images stay", x.count(1), 2);
        feedAll(x, "plain 1;oops");
        same("a refused text", state(x).replaceFirst("2 3$", "0 3"), before);
        x.end(0);
        due("an empty text", x.text(), 0);
        due("fault", x.fault(), 0);
        for (int what : new int[] {0, 1, 2, 5, 6}) {
            due("rule(" + what + ") behind an empty text", x.rule(what), 0);
        }
        due("seen is gone", x.count(0), 0);
        due("images are gone", x.count(1), 0);
        due("back(0)", x.back(0), STATE);
        due("sheets stay", x.count(3), 5);
        due("torn stays", x.torn(), 3);
        told("plain1;at1 2;pole20 20;");
        told("  plain   09 ;  at 00 20  ;  ");
        WheelAreas y = told("free 9;at 20 0;pole 0 20;");
        due("kind", y.wheel(0, 0), 3);
        due("step", y.wheel(0, 1), 9);
        due("x", y.corner(0, 0), 20);
        due("y", y.corner(0, 1), 0);
        due("pole x", y.rule(5), 0);
        due("pole y", y.rule(6), 20);
        due("reads", y.wheel(0, 2), ZERO);
        feedAll(y, "pole 1 2;");
        due("a pole in each text", y.text(), 1);
        due("pole x", y.rule(5), 1);
        due("no corners of the text before", y.rule(0), 0);
        due("no wheels of the text before", y.rule(1), 0);
        told("at 1 1;at 1 1;at 1 1;at 1 1;at 1 1;at 1 1;at 1 1;at 1 1;at 1 1;at 1 1;");
    }

    private static void refused(String text, int fault, int place) {
        WheelAreas x = new WheelAreas();
        feedAll(x, text);
        due("text of " + text, x.text(), -10 - place);
        due("fault of " + text, x.fault(), fault);
        due("wheels", x.rule(1), 0);
        due("corners", x.rule(0), 0);
    }

    private static void faultsOfTexts() {
        refused("Plain 1;", 1, 0);
        refused("plain 1;\n", 1, 8);
        refused("plain 1,", 1, 7);
        refused("plain 100;", 1, 6);
        refused("at 1 000;", 1, 5);
        refused("123", 1, 0);
        refused("plain 1; 123456", 1, 9);
        refused("plainx 1;", 2, 0);
        refused("clain 1;", 2, 0);
        refused("plaim 1;", 2, 0);
        refused("a 1 1;", 2, 0);
        refused("zz 1;", 2, 0);
        refused("plai 1;", 2, 0);
        refused(";", 2, 0);
        refused("plain 1;;", 2, 8);
        refused("plain plain 1;", 2, 6);
        refused("plain 1", 2, 7);
        refused("plain 1  ", 2, 9);
        refused("plain", 2, 5);
        refused("at 1 ;", 2, 5);
        refused("at 1 at", 2, 5);
        refused("at 1 1 plain", 2, 7);
        refused("pole 1 1 1;", 2, 9);
        refused("plain 0;", 3, 6);
        refused("plain 00;", 3, 6);
        refused("coarse 10;", 3, 7);
        refused("at 21 !", 3, 3);
        refused("at 20 21", 3, 6);
        refused("pole 99 1;", 3, 5);
        refused("pole 1 21;", 3, 7);
        refused("pole 1 1;pole 1 1;", 4, 9);
        refused("pole 1 1;pole 999", 4, 9);
        refused("pole 1 1;at 1 1; pole", 4, 17);
        refused("plain 1;plain 1;plain 1;plain 1;free", 5, 32);
        refused("plain 1;plain 1;plain 1;plain 1; stick 0;", 5, 33);
        refused("at 1 1;".repeat(10) + "at", 5, 70);
        refused("at 1 1;".repeat(10) + "at!", 5, 70);
        refused("plain 1;".repeat(4) + "wheel 1;", 2, 32);
        refused("plain 1;".repeat(4) + "at 1 1;!", 1, 39);
    }

    private static void promise6() {
        WheelAreas x = told(SQUARE);
        int[] rules = {4, 4, 0, 100200, 0, 3, 2};
        for (int what = 0; what < rules.length; what++) {
            due("rule(" + what + ")", x.rule(what), rules[what]);
        }
        due("rule(-1)", x.rule(-1), BAD);
        due("rule(7)", x.rule(7), BAD);
        x.trace(6);
        due("traced", x.rule(2), 6);
        due("next edge", x.rule(4), 2);
        x.drop(0);
        due("no next edge", x.rule(4), NONE);
        due("no area", x.rule(3), 100000);
        due("area below 0", told(TURNED).rule(3), 99800);
    }

    private static void promise7() {
        WheelAreas x = told(SQUARE);
        int[] sweeps = {20, 70, 80, 30};
        for (int i = 0; i < 4; i++) {
            due("sweep " + i, x.corner(i, 2), 10000 + sweeps[i]);
        }
        due("x", x.corner(1, 0), 10);
        due("y", x.corner(1, 1), 0);
        due("corner(-1, 0)", x.corner(-1, 0), BAD);
        due("corner(4, 0)", x.corner(4, 0), BAD);
        due("corner(0, 3)", x.corner(0, 3), BAD);
        due("corner(0, -1)", x.corner(0, -1), BAD);
        due("sweep below 0", told(TURNED).corner(0, 2), 9920);
        WheelAreas one = told("at 7 9;");
        due("the edge of one corner", one.corner(0, 2), 10000);
    }

    private static void promise8() {
        WheelAreas x = told(SQUARE);
        x.trace(4);
        int[] reads = {200, 180, 200, 200};
        int[] shows = {200, 20, 200, 400};
        int[] errors = {0, 20, 0, 0};
        for (int w = 0; w < 4; w++) {
            due("kind", x.wheel(w, 0), w);
            due("reads", x.wheel(w, 2), ZERO + reads[w]);
            due("shows", x.wheel(w, 3), ZERO + shows[w]);
            due("error", x.wheel(w, 4), errors[w]);
        }
        due("step", x.wheel(3, 1), 4);
        due("wheel(4, 0)", x.wheel(4, 0), BAD);
        due("wheel(-1, 0)", x.wheel(-1, 0), BAD);
        due("wheel(0, 5)", x.wheel(0, 5), BAD);
        due("wheel(0, -1)", x.wheel(0, -1), BAD);
        WheelAreas y = told(TURNED);
        y.trace(4);
        int[] turned = {-200, -180, -200, 0};
        int[] shown = {-200, -20, -200, 0};
        int[] off = {0, 20, 0, 200};
        for (int w = 0; w < 4; w++) {
            due("turned reads", y.wheel(w, 2), ZERO + turned[w]);
            due("turned shows", y.wheel(w, 3), ZERO + shown[w]);
            due("turned error", y.wheel(w, 4), off[w]);
        }
        y.alter(1, 1, 7);
        due("shows towards 0", y.wheel(1, 3), ZERO - 25);
        WheelAreas z = told(SMALL);
        due("coarse error", z.wheel(0, 4), 2);
        due("stick error", z.wheel(1, 4), 5);
        due("free error", z.wheel(2, 4), 0);
        z.trace(3);
        due("coarse reads", z.wheel(0, 2), ZERO + 3);
        due("stick reads", z.wheel(1, 2), ZERO);
        due("free reads", z.wheel(2, 2), ZERO + 5);
        z.alter(1, 1, 5);
        due("stick of its step", z.wheel(1, 4), 0);
        z.alter(2, 1, 6);
        due("free below its step", z.wheel(2, 4), 5);
    }

    private static void promises9to12() {
        WheelAreas x = told(SQUARE);
        String before = state(x);
        due("alter(4, 0, 0)", x.alter(4, 0, 0), BAD);
        due("alter(-1, 0, 0)", x.alter(-1, 0, 0), BAD);
        due("alter(0, 0, 4)", x.alter(0, 0, 4), BAD);
        due("alter(0, 0, -1)", x.alter(0, 0, -1), BAD);
        due("alter(0, 1, 0)", x.alter(0, 1, 0), BAD);
        due("alter(0, 1, 10)", x.alter(0, 1, 10), BAD);
        due("alter(0, 2, 1)", x.alter(0, 2, 1), BAD);
        due("alter(0, -1, 1)", x.alter(0, -1, 1), BAD);
        due("put full", x.put(0, 1), FULL);
        due("put bad when full", x.put(0, 0), BAD);
        due("cut(5)", x.cut(5), BAD);
        due("cut(-1)", x.cut(-1), BAD);
        due("zero(4)", x.zero(4), BAD);
        due("zero(-1)", x.zero(-1), BAD);
        same("what is refused", state(x), before);
        due("alter(2, 0, 0)", x.alter(2, 0, 0), 2);
        due("alter(2, 0, 3)", x.alter(2, 0, 3), 0);
        due("alter(1, 1, 5)", x.alter(1, 1, 5), 9);
        due("alter(1, 1, 9)", x.alter(1, 1, 9), 5);
        due("kind", x.wheel(2, 0), 3);
        due("step", x.wheel(1, 1), 9);
        x.trace(4);
        due("alter keeps what is read", x.alter(0, 0, 1), 0);
        due("reads", x.wheel(0, 2), ZERO + 200);
        due("zero(1)", x.zero(1), ZERO + 180);
        due("zero(1)", x.zero(1), ZERO);
        due("reads", x.wheel(1, 2), ZERO);
        due("the other reads", x.wheel(2, 2), ZERO + 200);
        due("cut(4)", x.cut(4), 4);
        due("cut(1)", x.cut(1), 4);
        due("wheel(1, 0)", x.wheel(1, 0), BAD);
        due("the first stays", x.wheel(0, 2), ZERO + 200);
        x.put(0, 1);
        x.trace(4);
        x.cut(1);
        due("put(3, 9)", x.put(3, 9), 2);
        due("a new one reads 0", x.wheel(1, 2), ZERO);
        due("kind", x.wheel(1, 0), 3);
        due("step", x.wheel(1, 1), 9);
        due("put(-1, 1)", x.put(-1, 1), BAD);
        due("put(4, 1)", x.put(4, 1), BAD);
        due("put(0, 10)", x.put(0, 10), BAD);
        due("cut(0)", x.cut(0), 2);
        due("cut(0)", x.cut(0), 0);
        due("zero(0)", x.zero(0), BAD);
    }

    private static void promises13to16() {
        WheelAreas x = told(SQUARE);
        String before = state(x);
        due("shift(4, 0, 0)", x.shift(4, 0, 0), BAD);
        due("shift(-1, 0, 0)", x.shift(-1, 0, 0), BAD);
        due("shift(0, 21, 0)", x.shift(0, 21, 0), BAD);
        due("shift(0, 0, -1)", x.shift(0, 0, -1), BAD);
        due("add(-1, 0)", x.add(-1, 0), BAD);
        due("add(0, 21)", x.add(0, 21), BAD);
        due("drop(5)", x.drop(5), BAD);
        due("drop(-1)", x.drop(-1), BAD);
        due("pole(21, 0)", x.pole(21, 0), BAD);
        due("pole(0, -1)", x.pole(0, -1), BAD);
        same("what is refused", state(x), before);
        due("shift(2, 20, 20)", x.shift(2, 20, 20), 1010);
        due("shift(2, 0, 1)", x.shift(2, 0, 1), 2020);
        due("shift(2, 10, 10)", x.shift(2, 10, 10), 1);
        due("x", x.corner(2, 0), 10);
        due("pole(20, 0)", x.pole(20, 0), 302);
        due("pole(0, 20)", x.pole(0, 20), 2000);
        due("pole x", x.rule(5), 0);
        due("pole y", x.rule(6), 20);
        for (int n = 5; n <= 10; n++) {
            due("add", x.add(20, 0), n);
        }
        due("add of the 11th", x.add(0, 0), FULL);
        due("add of a wrong 11th", x.add(21, 0), BAD);
        due("drop(10)", x.drop(10), 10);
        due("drop(2)", x.drop(2), 10);
        due("corner(2, 0)", x.corner(2, 0), BAD);
        due("corner(1, 0)", x.corner(1, 0), 10);
        due("add(5, 6)", x.add(5, 6), 3);
        due("y", x.corner(2, 1), 6);
        due("drop(0)", x.drop(0), 3);
        due("shift(0, 0, 0)", x.shift(0, 0, 0), BAD);
    }

    private static void promise17() {
        WheelAreas x = told(SQUARE);
        due("trace(-1)", x.trace(-1), BAD);
        due("trace(101)", x.trace(101), BAD);
        due("trace(0)", x.trace(0), 0);
        due("trace(1)", x.trace(1), 20 + 18 + 20 + 20);
        due("trace(1)", x.trace(1), 70 + 63 + 70 + 70);
        due("trace(4)", x.trace(4), 780);
        due("traced", x.rule(2), 6);
        due("reads", x.wheel(1, 2), ZERO + 180 + 81);
        due("without signs", told(TURNED).trace(4), 200 + 180 + 200);
        WheelAreas y = new WheelAreas();
        due("trace(99)", y.trace(99), 0);
        for (int i = 0; i < 99; i++) {
            due("trace(100)", y.trace(100), 0);
        }
        due("traced", y.rule(2), 9999);
        due("trace(0)", y.trace(0), 0);
        due("trace(1)", y.trace(1), FULL);
        due("trace(100)", y.trace(100), FULL);
        due("trace(101)", y.trace(101), BAD);
        due("traced", y.rule(2), 9999);
        y.put(0, 1);
        y.add(0, 0);
        y.add(10, 0);
        y.add(10, 10);
        due("next edge", y.rule(4), 0);
        due("ahead goes on", y.ahead(0, 200), ZERO + 67 * 100);
    }

    private static void promise18() {
        WheelAreas x = told(SQUARE);
        String before = state(x);
        due("runs(0, 0)", x.runs(0, 0), 0);
        due("runs(0, 1)", x.runs(0, 1), 0);
        due("runs(0, 2)", x.runs(0, 2), NONE);
        due("runs(2, 0)", x.runs(2, 0), 351);
        due("runs(200, 0)", x.runs(200, 0), 50 * 780);
        due("runs(2, 1)", x.runs(2, 1), 0);
        due("runs(2, 2)", x.runs(2, 2), 10070);
        due("runs(200, 2)", x.runs(200, 2), 10080);
        due("runs(201, 0)", x.runs(201, 0), BAD);
        due("runs(-1, 0)", x.runs(-1, 0), BAD);
        due("runs(1, 3)", x.runs(1, 3), BAD);
        due("runs(1, -1)", x.runs(1, -1), BAD);
        same("runs", state(x), before);
        x.trace(3);
        due("from now on", x.runs(1, 2), 10030);
        due("round the corner", x.runs(2, 0), 30 + 27 + 30 + 30 + 78);
        WheelAreas y = told(TURNED);
        due("a free one rests", y.runs(7, 1), 7);
        due("greatest below 0", y.runs(1, 2), 9920);
        due("greatest with its sign", y.runs(4, 2), 9980);
        y.cut(3);
        due("none rests", y.runs(7, 1), 0);
        y.cut(0);
        due("without wheels", y.runs(7, 1), 0);
        due("without wheels", y.runs(7, 0), 0);
        due("without wheels", y.runs(1, 2), 9920);
        WheelAreas z = told("plain 1;");
        due("without corners", z.runs(9, 0), 0);
        due("without corners", z.runs(9, 1), 0);
        due("without corners", z.runs(9, 2), NONE);
        WheelAreas first = told("free 1;plain 1;at 0 0;at 10 0;at 10 10;");
        due("the first rests in two of three", first.runs(6, 1), 4);
        first.cut(1);
        first.pole(20, 0);
        // Sweeps 0, -100, 200.
        due("the first alone", first.runs(6, 1), 4);
        WheelAreas onlyFirst = told("free 1;plain 1;at 0 10;at 10 10;at 10 0;at 0 0;pole 3 2;");
        due("only the first rests", onlyFirst.runs(8, 1), 8);
        WheelAreas s = told(SMALL);
        due("some rests", s.runs(3, 1), 3);
        s.alter(1, 1, 5);
        due("some rests", s.runs(3, 1), 2);
    }

    private static void promises19and20() {
        WheelAreas x = told(SQUARE);
        String before = state(x);
        due("ahead(0, 0)", x.ahead(0, 0), ZERO);
        due("ahead(0, 3)", x.ahead(0, 3), ZERO + 170);
        due("ahead(1, 200)", x.ahead(1, 200), ZERO + 9000);
        due("ahead(0, 201)", x.ahead(0, 201), BAD);
        due("ahead(0, -1)", x.ahead(0, -1), BAD);
        due("ahead(4, 0)", x.ahead(4, 0), BAD);
        due("when(0, ZERO)", x.when(0, ZERO), 0);
        due("when(0, 90)", x.when(0, ZERO + 90), 2);
        due("when(0, 91)", x.when(0, ZERO + 91), 3);
        due("when(0, 10000)", x.when(0, ZERO + 10000), 200);
        due("when(0, 9971)", x.when(0, ZERO + 9971), 200);
        due("when(0, 9970)", x.when(0, ZERO + 9970), 199);
        due("when(0, 10001)", x.when(0, ZERO + 10001), NONE);
        due("when(0, 30000000)", x.when(0, 30000000), NONE);
        due("when(0, 10000000)", x.when(0, 10000000), 0);
        due("when(0, 30000001)", x.when(0, 30000001), BAD);
        due("when(0, 9999999)", x.when(0, 9999999), BAD);
        due("when(4, ZERO)", x.when(4, ZERO), BAD);
        due("when(-1, ZERO)", x.when(-1, ZERO), BAD);
        same("ahead, when", state(x), before);
        x.trace(3);
        due("ahead(0, 1)", x.ahead(0, 1), ZERO + 200);
        due("when(0, 200)", x.when(0, ZERO + 200), 1);
        WheelAreas y = told(TURNED);
        due("ahead below 0", y.ahead(0, 1), ZERO - 80);
        due("when never", y.when(0, ZERO + 1), NONE);
        due("when now", y.when(0, ZERO - 5), 0);
        WheelAreas z = told("plain 1;");
        due("ahead without corners", z.ahead(0, 200), ZERO);
        due("when without corners", z.when(0, ZERO + 1), NONE);
    }

    private static void promise21() {
        WheelAreas x = told(SQUARE);
        String before = state(x);
        due("best(0, 0)", x.best(0, 0), 0);
        due("best(0, 1)", x.best(0, 1), 0);
        // Sweeps about X, Y are 10Y, 100 - 10X, 100 - 10Y, 10X; 100 is 1 more than 99, so 2 are lost at 0, 0,
        // and no fewer anywhere, as 200 is 2 more than 198.
        due("best(1, 1)", x.best(1, 1), 2);
        due("best(1, 0)", x.best(1, 0), 0);
        due("best(4, 0)", x.best(4, 0), BAD);
        due("best(-1, 0)", x.best(-1, 0), BAD);
        due("best(0, 2)", x.best(0, 2), BAD);
        due("best(0, -1)", x.best(0, -1), BAD);
        same("best", state(x), before);
        // Sweeps about X, Y: 2Y, 4 - 2X - 2Y, 2X.
        WheelAreas z = told("stick 9;at 0 0;at 2 0;at 0 2;");
        due("best of a stick one", z.best(0, 1), bestByHand(true));
        due("best of a stick one", z.best(0, 0), bestByHand(false));
        // There and back along two lines: a free one errs unless the pole is on both.
        WheelAreas lines = told("free 1;at 20 20;at 3 19;at 20 20;at 10 15;");
        due("best in the last corner", lines.best(0, 0), 2020);
        due("best in the last corner", lines.best(0, 1), 0);
        due("best without corners", told("coarse 9;").best(0, 0), 0);
        due("best without corners", told("coarse 9;").best(0, 1), 0);
    }

    private static int bestByHand(boolean error) {
        int least = MAX;
        int where = -1;
        for (int x = 20; x >= 0; x--) {
            for (int y = 20; y >= 0; y--) {
                int off = 0;
                for (int sweep : new int[] {2 * y, 4 - 2 * x - 2 * y, 2 * x}) {
                    off += sweep > -9 && sweep < 9 ? sweep : 0;
                }
                if (Math.abs(off) <= least) {
                    least = Math.abs(off);
                    where = 100 * x + y;
                }
            }
        }
        return error ? least : where;
    }

    private static void promises22and23() {
        WheelAreas x = told(SQUARE);
        String before = state(x);
        // 20, 70, 80, 30: 1, 2, 5 divide them all.
        due("step(1, 0)", x.step(1, 0), 5);
        due("step(1, 1)", x.step(1, 1), 0);
        due("step(0, 0)", x.step(0, 0), 9);
        due("step(3, 0)", x.step(3, 0), 9);
        due("step(4, 0)", x.step(4, 0), BAD);
        due("step(-1, 0)", x.step(-1, 0), BAD);
        due("step(0, 2)", x.step(0, 2), BAD);
        due("kind(1, 0)", x.kind(1, 0), 0);
        due("kind(1, 1)", x.kind(1, 1), 0);
        due("kind(4, 0)", x.kind(4, 0), BAD);
        due("kind(-1, 0)", x.kind(-1, 0), BAD);
        due("kind(0, 2)", x.kind(0, 2), BAD);
        due("kind(0, -1)", x.kind(0, -1), BAD);
        same("step, kind", state(x), before);
        WheelAreas z = told(SMALL);
        due("step of a stick one", z.step(1, 0), 5);
        due("step of a free one", z.step(2, 0), 5);
        due("step of a coarse one", z.step(0, 0), 5);
        WheelAreas t = told(TURNED);
        due("step of a free one", t.step(3, 0), 9);
        due("its error", t.step(3, 1), 200);
        due("kind of a free one", t.kind(3, 0), 0);
        due("its error", t.kind(3, 1), 0);
    }

    private static void promise24() {
        WheelAreas x = told("at 0 0;at 10 0;at 0 10;pole 7 7;");
        String before = state(x);
        // With corner 2 at X, Y the area is 10 Y.
        due("place(2, 0)", x.place(2, 0), 20);
        due("place(2, 1)", x.place(2, 1), 200);
        // With corner 0 at X, Y it is 100 - 10 X - 10 Y without sign: 300 at 20, 20.
        due("place(0, 0)", x.place(0, 0), 2020);
        due("place(0, 1)", x.place(0, 1), 300);
        due("place(3, 0)", x.place(3, 0), BAD);
        due("place(-1, 0)", x.place(-1, 0), BAD);
        due("place(0, 2)", x.place(0, 2), BAD);
        due("place(0, -1)", x.place(0, -1), BAD);
        same("place", state(x), before);
        WheelAreas one = told("at 5 5;");
        due("one corner", one.place(0, 0), 0);
        due("one corner", one.place(0, 1), 0);
        due("no corner", new WheelAreas().place(0, 0), BAD);
        WheelAreas y = told("at 0 10;at 0 0;at 10 0;");
        // With corner 0 at X, Y it is 10 Y.
        due("area of a turn", y.place(0, 1), 200);
        due("place of a turn", y.place(0, 0), 20);
    }

    private static void promise25() {
        WheelAreas x = told("at 0 0;at 10 10;at 10 0;at 0 10;");
        String before = state(x);
        // A bow tie encloses 0; only neighbours on its slanted edges make a square of it: 0 and 3, 1 and 2.
        due("area", x.rule(3), 100000);
        due("swap(0)", x.swap(0), 3);
        due("swap(1)", x.swap(1), 200);
        due("swap(2)", x.swap(2), BAD);
        due("swap(-1)", x.swap(-1), BAD);
        same("swap", state(x), before);
        due("a square is best", told(SQUARE).swap(0), NONE);
        due("a turned square is best", told(TURNED).swap(1), NONE);
        due("no corners", new WheelAreas().swap(0), NONE);
        due("no corners", new WheelAreas().swap(2), BAD);
        WheelAreas y = told("at 0 0;at 20 0;at 20 20;at 9 9;at 10 20;at 0 20;");
        int[] due = swapByHand(new int[][] {{0, 0}, {20, 0}, {20, 20}, {9, 9}, {10, 20}, {0, 20}});
        due("swap(0)", y.swap(0), due[0]);
        due("swap(1)", y.swap(1), due[1]);
        WheelAreas z = told("at 0 0;at 0 20;at 20 0;at 20 20;at 5 20;");
        due = swapByHand(new int[][] {{0, 0}, {0, 20}, {20, 0}, {20, 20}, {5, 20}});
        due("swap(0)", z.swap(0), due[0]);
        due("swap(1)", z.swap(1), due[1]);
    }

    private static int shoelace(int[][] corners) {
        int sum = 0;
        for (int i = 0; i < corners.length; i++) {
            int[] a = corners[i];
            int[] b = corners[(i + 1) % corners.length];
            sum += a[0] * b[1] - b[0] * a[1];
        }
        return Math.abs(sum);
    }

    private static int[] swapByHand(int[][] corners) {
        int[] found = {NONE, NONE};
        int most = shoelace(corners);
        for (int i = 0; i < corners.length; i++) {
            for (int j = i + 1; j < corners.length; j++) {
                int[][] changed = corners.clone();
                changed[i] = corners[j];
                changed[j] = corners[i];
                if (shoelace(changed) > most) {
                    most = shoelace(changed);
                    found = new int[] {10 * i + j, most};
                }
            }
        }
        return found;
    }

    private static void promise26() {
        WheelAreas x = told("at 0 0;at 10 0;at 10 10;at 5 5;at 0 10;");
        String before = state(x);
        due("area", x.rule(3), 100150);
        due("out(0)", x.out(0), 3);
        due("out(1)", x.out(1), 200);
        due("out(2)", x.out(2), BAD);
        due("out(-1)", x.out(-1), BAD);
        same("out", state(x), before);
        due("a square is best", told(SQUARE).out(0), NONE);
        due("a square is best", told(SQUARE).out(1), NONE);
        due("no corners", new WheelAreas().out(0), NONE);
        // A bow tie encloses 0; without any one of its corners 100 are left.
        WheelAreas tie = told("at 0 0;at 10 10;at 10 0;at 0 10;");
        due("the first of several", tie.out(0), 0);
        due("the first of several", tie.out(1), 100);
        WheelAreas turned = told("at 0 10;at 5 5;at 10 10;at 10 0;at 0 0;");
        due("below 0", turned.rule(3), 99850);
        due("out(0)", turned.out(0), 1);
        due("out(1)", turned.out(1), 200);
    }

    private static void fraction(String what, long above, long below, long dueAbove, long dueBelow) {
        due(what + " above", above, dueAbove);
        due(what + " below", below, dueBelow);
    }

    private static void luckDue(WheelAreas x, int[] a, long above, long below) {
        fraction("luck" + Arrays.toString(a), x.luck(a[0], a[1], a[2], a[3], 0), x.luck(a[0], a[1], a[2], a[3], 1), above, below);
    }

    private static void meanDue(WheelAreas x, int[] a, long above, long below) {
        fraction("mean" + Arrays.toString(a), x.mean(a[0], a[1], a[2], 0), x.mean(a[0], a[1], a[2], 1), above, below);
    }

    private static void promise27() {
        WheelAreas x = told(SQUARE);
        String before = state(x);
        luckDue(x, new int[] {3, 0, ZERO + 20, 1}, 7, 10);
        luckDue(x, new int[] {3, 0, ZERO + 21, 1}, 0, 1);
        luckDue(x, new int[] {3, 0, ZERO, 1}, 1, 1);
        luckDue(x, new int[] {5, 0, ZERO + 70, 2}, 1, 2);
        luckDue(x, new int[] {5, 0, ZERO + 71, 2}, 1, 4);
        luckDue(x, new int[] {2, 1, ZERO + 63, 2}, 4, 5);
        luckDue(x, new int[] {0, 0, ZERO + 400, 8}, 1, 1);
        luckDue(x, new int[] {10, 0, ZERO + 1, 8}, 0, 1);
        luckDue(x, new int[] {10, 0, ZERO, 8}, 1, 1);
        luckDue(x, new int[] {1, 0, ZERO + 400, 8}, 43046721, 100000000);
        luckDue(x, new int[] {1, 0, ZERO, 0}, 1, 1);
        luckDue(x, new int[] {1, 0, ZERO + 1, 0}, 0, 1);
        luckDue(x, new int[] {1, 0, 10000000, 3}, 1, 1);
        luckDue(x, new int[] {1, 0, 30000000, 3}, 0, 1);
        due("luck of v -1", x.luck(-1, 0, ZERO, 1, 0), BAD);
        due("luck of v 11", x.luck(11, 0, ZERO, 1, 0), BAD);
        due("luck of w -1", x.luck(1, -1, ZERO, 1, 0), BAD);
        due("luck of w 4", x.luck(1, 4, ZERO, 1, 0), BAD);
        due("luck of e", x.luck(1, 0, 9999999, 1, 0), BAD);
        due("luck of e", x.luck(1, 0, 30000001, 1, 0), BAD);
        due("luck of n -1", x.luck(1, 0, ZERO, -1, 0), BAD);
        due("luck of n 9", x.luck(1, 0, ZERO, 9, 0), BAD);
        due("luck of what 2", x.luck(1, 0, ZERO, 1, 2), BAD);
        due("luck of what -1", x.luck(1, 0, ZERO, 1, -1), BAD);
        same("luck", state(x), before);
        x.trace(1);
        luckDue(x, new int[] {3, 0, ZERO + 90, 1}, 7, 10);
        WheelAreas y = told("plain 1;");
        luckDue(y, new int[] {3, 0, ZERO, 8}, 1, 1);
        luckDue(y, new int[] {3, 0, ZERO + 1, 8}, 0, 1);
    }

    private static void promise28() {
        WheelAreas x = told(SQUARE);
        String before = state(x);
        meanDue(x, new int[] {3, 0, 1}, 14, 1);
        meanDue(x, new int[] {3, 0, 0}, 0, 1);
        meanDue(x, new int[] {1, 1, 1}, 81, 5);
        meanDue(x, new int[] {0, 0, 8}, 400, 1);
        meanDue(x, new int[] {10, 0, 8}, 0, 1);
        meanDue(x, new int[] {5, 0, 2}, 45, 1);
        due("mean of v -1", x.mean(-1, 0, 1, 0), BAD);
        due("mean of v 11", x.mean(11, 0, 1, 0), BAD);
        due("mean of w 4", x.mean(1, 4, 1, 0), BAD);
        due("mean of w -1", x.mean(1, -1, 1, 0), BAD);
        due("mean of n 9", x.mean(1, 0, 9, 0), BAD);
        due("mean of n -1", x.mean(1, 0, -1, 0), BAD);
        due("mean of what 2", x.mean(1, 0, 1, 2), BAD);
        due("mean of what -1", x.mean(1, 0, 1, -1), BAD);
        same("mean", state(x), before);
        x.trace(1);
        meanDue(x, new int[] {1, 0, 1}, 83, 1);
        WheelAreas t = told(TURNED);
        meanDue(t, new int[] {3, 0, 1}, 56, 1);
        // Sweeps -30 and 30 in turn: two edges by halves leave 30 without sign twice out of four.
        WheelAreas z = told("plain 1;at 3 4;at 9 2;");
        meanDue(z, new int[] {5, 0, 2}, 15, 1);
        meanDue(told("plain 1;"), new int[] {5, 0, 8}, 0, 1);
    }

    private static void promises29to32() {
        WheelAreas x = told(SQUARE);
        due("see(-1, 0, ZERO)", x.see(-1, 0, ZERO), BAD);
        due("see(41, 0, ZERO)", x.see(41, 0, ZERO), BAD);
        due("see(0, 4, ZERO)", x.see(0, 4, ZERO), BAD);
        due("see(0, -1, ZERO)", x.see(0, -1, ZERO), BAD);
        due("see of v", x.see(0, 0, 9999999), BAD);
        due("see of v", x.see(0, 0, 30000001), BAD);
        due("seen", x.count(0), 0);
        due("kinds of nothing seen", x.kinds(1), 15);
        due("steps of nothing seen", x.steps(1), 1022);
        due("kinds(4)", x.kinds(4), BAD);
        due("kinds(-1)", x.kinds(-1), BAD);
        due("steps(4)", x.steps(4), BAD);
        due("steps(-1)", x.steps(-1), BAD);
        due("forget(1)", x.forget(1), BAD);
        due("forget(-1)", x.forget(-1), BAD);
        due("see(1, 1, 18)", x.see(1, 1, ZERO + 18), 1);
        due("kinds(1)", x.kinds(1), 2);
        // 18 of 20 are left by 3, 6, 9 alone.
        due("steps(1)", x.steps(1), 1 << 3 | 1 << 6 | 1 << 9);
        due("kinds(0): the other is as it is", x.kinds(0), 15);
        due("see(2, 1, 81)", x.see(2, 1, ZERO + 81), 2);
        // 70 leaves 69, 66, 63.
        due("steps(1)", x.steps(1), 1 << 9);
        due("see(40, 0, 2000)", x.see(40, 0, ZERO + 2000), 3);
        due("kinds(0): its step is 1", x.kinds(0), 15);
        x.alter(0, 1, 7);
        due("kinds(0)", x.kinds(0), 13);
        due("steps(0)", x.steps(0), 1022);
        due("see(1, 2, 0)", x.see(1, 2, ZERO), 4);
        due("kinds(0)", x.kinds(0), 0);
        due("kinds(2)", x.kinds(2), 0);
        due("forget(3)", x.forget(3), 4);
        due("kinds(0)", x.kinds(0), 13);
        x.trace(1);
        due("from now on", x.kinds(1), 0);
        due("forget(0)", x.forget(0), 3);
        for (int n = 1; n <= 6; n++) {
            due("see", x.see(40, 3, 30000000), n);
        }
        due("see full", x.see(0, 0, ZERO), FULL);
        due("see bad when full", x.see(0, 4, ZERO), BAD);
        due("forget(7)", x.forget(7), BAD);
        due("forget(6)", x.forget(6), 6);
        due("forget(1)", x.forget(1), 6);
        due("seen", x.count(0), 1);
        due("forget(0)", x.forget(0), 1);
        due("see(0, 3, 20)", x.see(0, 3, ZERO + 20), 1);
        due("kinds(0)", x.kinds(0), 15);
        due("cut(3)", x.cut(3), 4);
        due("what is there no more", x.kinds(0), 0);
        due("what is there no more", x.steps(0), 0);
        WheelAreas z = told(SMALL);
        z.see(3, 1, ZERO);
        due("steps of a stick one", z.steps(1), 1 << 6 | 1 << 7 | 1 << 8 | 1 << 9);
        due("kinds of a stick one", z.kinds(1), 2 | 4 | 8);
        WheelAreas t = told(TURNED);
        t.see(4, 3, ZERO);
        due("kinds of a free one", t.kinds(3), 8);
        due("steps of a free one", t.steps(3), 1022);
        WheelAreas none = told("plain 1;");
        none.see(40, 0, ZERO);
        due("without corners", none.kinds(0), 15);
        none.see(40, 0, ZERO + 1);
        due("without corners", none.kinds(0), 0);
    }

    private static void promise33() {
        WheelAreas x = told(SQUARE);
        String before = state(x);
        due("ask of a plain one", x.ask(0, 0), NONE);
        due("ask of a plain one", x.ask(0, 1), NONE);
        // Behind 1 edge: 20 by 1, 2, 4, 5; 18 by 3, 6, 9; 14 by 7; 16 by 8.
        // Behind 2: 1 90, 2 90, 3 87, 4 88, 5 90, 6 84, 7 84, 8 80, 9 81; 1, 2, 5 always read the same.
        due("ask(1, 0)", x.ask(1, 0), 2);
        due("ask(1, 1)", x.ask(1, 1), 3);
        due("ask(4, 0)", x.ask(4, 0), BAD);
        due("ask(-1, 0)", x.ask(-1, 0), BAD);
        due("ask(0, 2)", x.ask(0, 2), BAD);
        due("ask(0, -1)", x.ask(0, -1), BAD);
        same("ask", state(x), before);
        x.see(1, 1, ZERO + 18);
        // 3, 6, 9 are left.
        due("ask of three", x.ask(1, 0), 2);
        due("ask of three", x.ask(1, 1), 1);
        x.see(2, 1, ZERO + 81);
        due("ask of one", x.ask(1, 0), NONE);
        x.see(2, 1, ZERO + 80);
        due("ask of none", x.ask(1, 0), NONE);
        due("ask of none", x.ask(1, 1), NONE);
        due("ask of what another read", x.ask(0, 0), NONE);
        // 5 is rolled by 1 to 5 alone, at the second edge.
        WheelAreas z = told(SMALL);
        due("ask of a stick one", z.ask(1, 0), 2);
        due("ask of a stick one", z.ask(1, 1), 5);
        due("without corners", told("coarse 1;").ask(0, 0), NONE);
    }

    private static int driftByHand(int seed, int n, int[] sweeps) {
        long next = seed & 0xffffffffL;
        int sum = 0;
        for (int i = 0; i < n; i++) {
            next = (next * 1103515245L + 12345L) & 0xffffffffL;
            sum += sweeps[(int) ((next / 65536 % 32768) % sweeps.length)];
        }
        return sum;
    }

    private static void promise34() {
        WheelAreas x = told(SQUARE);
        x.trace(1);
        String before = state(x);
        int[] sweeps = {20, 70, 80, 30};
        int[] all = {78, 273, 312, 117};
        for (int seed : new int[] {0, 1, -1, 7, -3, MIN, MAX, 123456789}) {
            for (int n : new int[] {1, 2, 5, 200}) {
                due("drift(" + seed + ", " + n + ", 0)", x.drift(seed, n, 0), ZERO + 20 + driftByHand(seed, n, sweeps));
                due("drift(" + seed + ", " + n + ", 1)", x.drift(seed, n, 1), driftByHand(seed, n, all));
            }
        }
        due("drift(1, 0, 0)", x.drift(1, 0, 0), BAD);
        due("drift(1, 201, 0)", x.drift(1, 201, 0), BAD);
        due("drift(1, 1, 2)", x.drift(1, 1, 2), BAD);
        due("drift(1, 1, -1)", x.drift(1, 1, -1), BAD);
        same("drift", state(x), before);
        WheelAreas y = told(TURNED);
        due("without signs", y.drift(5, 9, 1), driftByHand(5, 9, new int[] {80 + 72 + 80, 70 + 63 + 70, 20 + 18 + 20, 30 + 27 + 30}));
        due("with signs", y.drift(5, 9, 0), ZERO + driftByHand(5, 9, new int[] {-80, -70, -20, -30}));
        y.cut(0);
        due("no wheels", y.drift(5, 9, 0), STATE);
        due("no wheels, bad", y.drift(5, 0, 0), BAD);
        due("no corners", told("plain 1;").drift(5, 9, 0), STATE);
    }

    private static void promises35and36() {
        WheelAreas x = told(SQUARE);
        due("keep(-1)", x.keep(-1), BAD);
        due("keep(2)", x.keep(2), BAD);
        due("back(-1)", x.back(-1), BAD);
        due("back(2)", x.back(2), BAD);
        due("back(1)", x.back(1), STATE);
        x.trace(5);
        due("keep(0)", x.keep(0), 0);
        due("images", x.count(1), 1);
        due("back(1)", x.back(1), STATE);
        String kept = state(x);
        x.trace(7);
        x.shift(0, 20, 20);
        x.drop(2);
        x.pole(9, 9);
        x.zero(0);
        x.alter(1, 0, 3);
        x.alter(2, 1, 1);
        x.cut(3);
        due("back(0)", x.back(0), 5);
        same("back", state(x), kept);
        x.cut(2);
        due("keep(1)", x.keep(1), 0);
        due("images", x.count(1), 2);
        due("keep(0)", x.keep(0), 1);
        due("back(1)", x.back(1), 5);
        x.trace(1);
        x.see(0, 0, ZERO);
        x.sheet(0, 0, 3);
        feedAll(x, "at");
        due("back(0)", x.back(0), 5);
        due("wheels", x.rule(1), 2);
        due("seen stays", x.count(0), 1);
        due("the tape stays", x.count(2), 2);
        due("sheets stay", x.count(3), 3);
        due("back(0) again", x.back(0), 5);
    }

    private static void promises37and38() {
        WheelAreas x = new WheelAreas();
        due("sheet(-1, 0, 1)", x.sheet(-1, 0, 1), BAD);
        due("sheet(4, 0, 1)", x.sheet(4, 0, 1), BAD);
        due("sheet(0, -1, 1)", x.sheet(0, -1, 1), BAD);
        due("sheet(0, 3, 1)", x.sheet(0, 3, 1), BAD);
        due("sheet(0, 0, 41)", x.sheet(0, 0, 41), BAD);
        due("sheet(0, 3, -1)", x.sheet(0, 3, -1), BAD);
        due("sheet(4, 0, -1)", x.sheet(4, 0, -1), BAD);
        due("sheet(0, 0, -1)", x.sheet(0, 0, -1), -14);
        due("sheet(0, 0, MIN)", x.sheet(0, 0, MIN), -14);
        due("cells", x.count(3), NONE);
        due("lay(0, 0, 0)", x.lay(0, 0, 0), -11);
        due("lay(0, -1, 0)", x.lay(0, -1, 0), -11);
        due("lay(4, 0, 0)", x.lay(4, 0, 0), BAD);
        due("lay(-1, 0, 0)", x.lay(-1, 0, 0), BAD);
        due("sheet(0, 2, 40)", x.sheet(0, 2, 40), 1);
        due("cells", x.count(3), 40);
        due("lay(0, 39, 1)", x.lay(0, 39, 1), 1);
        due("lay(0, 40, 1)", x.lay(0, 40, 1), -12);
        due("lay(0, -1, 1)", x.lay(0, -1, 1), -12);
        due("lay(0, MAX, 1)", x.lay(0, MAX, 1), -12);
        due("lay(0, MIN, 1)", x.lay(0, MIN, 1), -12);
        due("sheet(0, 0, -5)", x.sheet(0, 0, -5), -14);
        due("it stays", x.count(3), 40);
        due("sheet(0, 1, 0)", x.sheet(0, 1, 0), 1);
        due("cells", x.count(3), 0);
        due("lay(0, 0, 1)", x.lay(0, 0, 1), -12);
        lowestBits(0, 256, true);
        lowestBits(0, 65536, true);
        lowestBits(1, 256, false);
        lowestBits(1, 65536, true);
        lowestBits(2, 65536, false);
        WheelAreas y = new WheelAreas();
        y.sheet(2, 2, 2);
        y.lay(2, 0, 7);
        y.lay(2, 1, 8);
        y.sheet(2, 2, 2);
        due("read", y.read(2, 2, 0, 1), 1);
        due("a new row has cells 0", y.corner(0, 0), 0);
        due("a new row has cells 0", y.corner(0, 1), 0);
    }

    private static void lowestBits(int lane, int more, boolean gone) {
        WheelAreas x = new WheelAreas();
        x.sheet(1, lane, 2);
        x.lay(1, 0, more + 7);
        x.lay(1, 1, -more + 9);
        due("read of lane " + lane + " and " + more, x.read(1, lane, 0, 1), gone ? 1 : -20);
        due("x of lane " + lane, x.corner(0, 0), gone ? 7 : BAD);
        due("y of lane " + lane, x.corner(0, 1), gone ? 9 : BAD);
    }

    private static WheelAreas laid(int lane, int... cells) {
        WheelAreas x = new WheelAreas();
        x.sheet(1, lane, cells.length);
        for (int i = 0; i < cells.length; i++) {
            x.lay(1, i, cells[i]);
        }
        return x;
    }

    private static void promises39and40() {
        WheelAreas x = laid(0, 1, 2, 3, 4, 5);
        due("read(-1, 0, 0, 1)", x.read(-1, 0, 0, 1), BAD);
        due("read(4, 0, 0, 1)", x.read(4, 0, 0, 1), BAD);
        due("read(1, -1, 0, 1)", x.read(1, -1, 0, 1), BAD);
        due("read(1, 3, 0, 1)", x.read(1, 3, 0, 1), BAD);
        due("read(1, 0, 0, -1)", x.read(1, 0, 0, -1), BAD);
        due("read(1, 0, 0, 21)", x.read(1, 0, 0, 21), BAD);
        due("torn", x.torn(), 0);
        due("read(1, 0, 0, 20)", x.read(1, 0, 0, 20), 2);
        due("torn", x.torn(), 2);
        due("corners", x.rule(0), 2);
        due("x", x.corner(1, 0), 3);
        due("y", x.corner(1, 1), 4);
        due("read(1, 0, 3, 1)", x.read(1, 0, 3, 1), 1);
        due("torn", x.torn(), 0);
        due("x", x.corner(2, 0), 4);
        due("read(1, 0, 4, 1): half a corner", x.read(1, 0, 4, 1), 0);
        due("torn", x.torn(), 2);
        due("read(1, 0, 0, 0)", x.read(1, 0, 0, 0), 0);
        due("torn", x.torn(), 0);
        due("read(1, 1, 0, 1)", x.read(1, 1, 0, 1), 0);
        due("torn", x.torn(), 3);
        due("read(1, 2, 99, 1)", x.read(1, 2, 99, 1), 0);
        due("torn", x.torn(), 3);
        due("read(0, 2, -1, 1)", x.read(0, 2, -1, 1), 0);
        due("torn", x.torn(), 1);
        due("a refused read", x.read(1, 0, 0, 21), BAD);
        due("torn stays", x.torn(), 1);
        for (int f : new int[] {-1, 5, MAX, MAX - 1, MIN}) {
            due("read(1, 0, " + f + ", 20)", x.read(1, 0, f, 20), 0);
            due("torn", x.torn(), 2);
        }
        due("corners", x.rule(0), 3);

        WheelAreas y = laid(2, 1, 1, 2, 2, 3, 21, 4);
        due("read by add", y.read(1, 2, 0, 2), 2);
        y.read(0, 0, 0, 1);
        due("torn", y.torn(), 1);
        due("the third is refused", y.read(1, 2, 0, 4), -22);
        due("none came", y.rule(0), 2);
        due("torn stays", y.torn(), 1);
        due("the first is refused", y.read(1, 2, 4, 4), -20);
        due("half of the first", y.read(1, 2, 6, 4), 0);
        due("torn", y.torn(), 2);
        due("below 0", laid(1, 1, -1).read(1, 1, 0, 1), -20);
        due("below 0 and half", laid(1, -1).read(1, 1, 0, 1), 0);

        WheelAreas z = new WheelAreas();
        z.sheet(3, 1, 40);
        due("full", z.read(3, 1, 0, 11), -30);
        due("none came", z.rule(0), 0);
        due("ten", z.read(3, 1, 0, 10), 10);
        due("one more", z.read(3, 1, 0, 1), -20);
        due("none more", z.read(3, 1, 0, 0), 0);
        due("twenty", z.read(3, 1, 0, 20), -20);
        due("corners", z.rule(0), 10);
    }

    private static void promise41() {
        WheelAreas x = told(SQUARE);
        due("steps", x.count(4), 23);
        due("places", x.count(5), 40);
        due("places", told(TURNED).count(5), 40);
        due("places of the first", told("at 3 4;at 9 2;").count(5), 18);
        x.see(0, 0, ZERO);
        x.see(0, 0, ZERO);
        due("seen", x.count(0), 2);
        x.keep(1);
        due("images", x.count(1), 1);
        x.keep(0);
        due("images", x.count(1), 2);
        feedAll(x, "abc");
        due("bytes", x.count(2), 3);
        x.sheet(1, 0, 7);
        due("cells of sheet 0", x.count(3), NONE);
        x.sheet(0, 0, 7);
        due("cells of sheet 0", x.count(3), 7);
        x.drop(2);
        x.cut(2);
        due("steps", x.count(4), 10);
        due("places", x.count(5), 10);
        due("count(-1)", x.count(-1), BAD);
        due("count(6)", x.count(6), BAD);
    }
}

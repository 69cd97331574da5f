/** The boundaries that promise 1 and promises 6 to 41 name, each sentence with a test of its own (2 to 5: TextBoundariesTest). */
public final class CallBoundariesTest extends Bench {
    /** The square the other way round: sweeps -80, -70, -20, -30; area -200. */
    private static final String TURNED = "at 0 10;at 10 10;at 10 0;at 0 0;pole 3 2;";

    public static void main(String[] args) {
        newObject();
        whatThereIs();
        wheelsChanged();
        cornersChanged();
        tracing();
        running();
        aheadAndWhen();
        bestOfWheels();
        bestOfCorners();
        lucky();
        meaning();
        seeing();
        asSeen();
        asking();
        drifting();
        images();
        sheets();
        reading();
        counting();
        finish();
    }

    private static void newObject() {
        sentence("1 A new object", "No CORNERS, no WHEELS; SHEETS have nothing", () -> {
            WheelAreas x = new WheelAreas();
            same("new", now(x), "rules 0 0 0 100000 -4 0 0 corners" + " -1,-1".repeat(10) + " wheels" + " -1,-1,-1".repeat(4)
                + " counts 0 0 0 -4 0 0 faults 0 0");
            for (int k = 0; k <= 3; k++) {
                due("lay", x.lay(k, 0, 0), -11);
            }
            due("back", x.back(0), STATE);
            due("back", x.back(1), STATE);
            due("another object has none of it", made(ALL).rule(0) + new WheelAreas().rule(0), 10);
        });
    }

    // ---- promises 6 to 8

    private static void whatThereIs() {
        sentence("6 rule", "0 CORNERS, 1 WHEELS, 2 TRACED, 3 100000 more than AREA", () -> {
            int[] ofNew = {0, 0, 0, 100000, NONE, 0, 0};
            int[] ofSome = {4, 3, 5, 100200, 1, 3, 2};
            for (int what = 0; what <= 6; what++) {
                dueOf(NEW, ofNew[what], "rule", what);
                dueOf(SOME, ofSome[what], "rule", what);
            }
            dueOf(ALL, 10, "rule", 0);
            dueOf(ALL, 4, "rule", 1);
            dueOf(x -> traceAll(x, 9999), 9999, "rule", 2);
        });
        sentence("6 rule", "4 the EDGE to be TRACED next (NONE)", () -> {
            dueOf(NEW, NONE, "rule", 4);
            dueOf(then(SOME, x -> x.drop(0)), NONE, "rule", 4);
            dueOf(then(SOME, x -> x.drop(1)), 0, "rule", 4);
            dueOf(then(SOME, x -> x.trace(2)), 3, "rule", 4);
            dueOf(then(SOME, x -> x.trace(3)), 0, "rule", 4);
        });
        sentence("6 rule", "5 X of THE POLE, 6 Y of it. BAD", () -> {
            dueOf(x -> x.pole(20, 0), 20, "rule", 5);
            dueOf(x -> x.pole(20, 0), 0, "rule", 6);
            dueOf(x -> x.pole(0, 20), 20, "rule", 6);
            bounds(SOME, 0, 0, 6, "rule", 0);
        });
        sentence("7 corner", "Of a CORNER: 0 X, 1 Y, 2 10000 more than SWEEP of the EDGE from it. BAD", () -> {
            bounds(SOME, 0, 0, 3, "corner", 0, 0);
            bounds(ALL, 0, 0, 9, "corner", 0, 0);
            bounds(SOME, 1, 0, 2, "corner", 0, 0);
            // The most that an edge can sweep, either way.
            dueOf(told("at 0 20;at 0 0;pole 20 20;"), 10400, "corner", 0, 2);
            dueOf(told("at 0 0;at 0 20;pole 20 20;"), 9600, "corner", 0, 2);
        });
        sentence("8 wheel", "Of a WHEEL: 0 KIND, 1 STEP, 2 20000000 more than it READS, 3 20000000 more than it SHOWS, 4 ERROR. BAD", () -> {
            bounds(SOME, 0, 0, 2, "wheel", 0, 0);
            bounds(ALL, 0, 0, 3, "wheel", 0, 0);
            bounds(SOME, 1, 0, 4, "wheel", 0, 0);
            int[] due = {1, 9, ZERO + 198, ZERO + 22, 20};
            for (int what = 0; what <= 4; what++) {
                dueOf(SOME, due[what], "wheel", 1, what);
            }
            Deed most = then(told("free 1;at 20 0;at 0 20;"), x -> x.trace(1));
            dueOf(most, ZERO + 400, "wheel", 0, 2);
            dueOf(most, ZERO + 800, "wheel", 0, 3);
            // As much as can be read: 9999 edges.
            Deed far = then(told("free 1;plain 1;at 0 0;at 20 0;at 20 20;at 0 20;pole 10 10;"), x -> traceAll(x, 9999));
            dueOf(far, ZERO + 9999 * 200, "wheel", 0, 2);
            dueOf(far, ZERO + 9999 * 400, "wheel", 0, 3);
            Deed back = then(told("plain 1;coarse 9;at 0 20;at 20 20;at 20 0;at 0 0;pole 10 10;"), x -> traceAll(x, 9999));
            dueOf(back, ZERO - 9999 * 200, "wheel", 0, 2);
            dueOf(back, ZERO - 9999 * 198, "wheel", 1, 2);
            dueOf(back, ZERO - 9999 * 22, "wheel", 1, 3);
        });
    }

    // ---- promises 9 to 12

    private static void wheelsChanged() {
        sentence("9 alter", "KIND, STEP (what 0, 1) of a WHEEL becomes v: what it was. BAD", () -> {
            bounds(SOME, 0, 0, 2, "alter", 0, 0, 1);
            bounds(ALL, 0, 0, 3, "alter", 0, 1, 1);
            bounds(SOME, 1, 0, 1, "alter", 0, 0, 1);
            bounds(SOME, 2, 0, 3, "alter", 1, 0, 1);
            bounds(SOME, 2, 1, 9, "alter", 1, 1, 1);
            dueOf(SOME, 1, "alter", 1, 0, 1);
            dueOf(SOME, 9, "alter", 1, 1, 9);
            unchanged(SOME, "alter", 1, 0, 1);
            unchanged(SOME, "alter", 1, 1, 9);
            WheelAreas x = made(SOME);
            x.alter(1, 0, 3);
            x.alter(1, 1, 1);
            due("reads as much", x.wheel(1, 2), ZERO + 198);
            due("kind", x.alter(1, 0, 0), 3);
            due("step", x.alter(1, 1, 9), 1);
        });
        sentence("10 put", "A WHEEL more, behind all others: how many there are. BAD; FULL", () -> {
            bounds(SOME, 0, 0, 3, "put", 0, 1);
            bounds(SOME, 1, 1, 9, "put", 0, 1);
            dueOf(NEW, 1, "put", 3, 9);
            dueOf(SOME, 4, "put", 3, 9);
            refused(then(SOME, x -> x.put(0, 1)), FULL, "put", 3, 9);
            refused(ALL, FULL, "put", 0, 1);
            dueOf(then(ALL, x -> x.cut(3)), 4, "put", 0, 1);
            WheelAreas x = made(SOME);
            x.put(3, 9);
            due("kind of the last", x.wheel(3, 0), 3);
            due("step of the last", x.wheel(3, 1), 9);
            due("kind of the one ahead", x.wheel(2, 0), 2);
        });
        sentence("11 cut", "WHEELS are the first n alone: how many there were. BAD", () -> {
            dueOf(NEW, 0, "cut", 0);
            refused(NEW, BAD, "cut", 1);
            bounds(SOME, 0, 0, 3, "cut", 0);
            bounds(ALL, 0, 0, 4, "cut", 0);
            dueOf(ALL, 4, "cut", 0);
            unchanged(SOME, "cut", 3);
            unchanged(ALL, "cut", 4);
            for (int n = 0; n <= 3; n++) {
                WheelAreas x = made(ALL);
                due("cut", x.cut(n), 4);
                due("wheels", x.rule(1), n);
                due("the first that is there no more", x.wheel(n, 0), BAD);
                due("the last that is there", x.wheel(n - 1, 0), n == 0 ? BAD : n - 1);
            }
        });
        sentence("12 zero", "A WHEEL READS 0: 20000000 more than it READ. BAD", () -> {
            refused(NEW, BAD, "zero", 0);
            bounds(SOME, 0, 0, 2, "zero", 0);
            bounds(ALL, 0, 0, 3, "zero", 0);
            dueOf(SOME, ZERO + 198, "zero", 1);
            dueOf(then(SOME, x -> x.zero(1)), ZERO, "zero", 1);
            WheelAreas x = made(then(told("plain 1;" + TURNED), y -> y.trace(1)));
            due("below 0", x.zero(0), ZERO - 80);
            due("reads", x.wheel(0, 2), ZERO);
        });
    }

    // ---- promises 13 to 16

    private static void cornersChanged() {
        sentence("13 shift", "A CORNER goes to X, Y: 100 times the X, and the Y that it had. BAD", () -> {
            refused(NEW, BAD, "shift", 0, 0, 0);
            bounds(SOME, 0, 0, 3, "shift", 0, 0, 0);
            bounds(ALL, 0, 0, 9, "shift", 0, 0, 0);
            bounds(SOME, 1, 0, 20, "shift", 3, 5, 5);
            bounds(SOME, 2, 0, 20, "shift", 3, 5, 5);
            WheelAreas x = made(SOME);
            due("shift", x.shift(3, 20, 20), 10);
            due("shift", x.shift(3, 20, 0), 2020);
            due("shift", x.shift(3, 0, 20), 2000);
            due("shift", x.shift(3, 0, 0), 20);
            due("shift", x.shift(3, 0, 0), 0);
        });
        sentence("14 add", "A CORNER more, behind all others: how many there are. BAD; FULL", () -> {
            dueOf(NEW, 1, "add", 0, 0);
            bounds(NEW, 0, 0, 20, "add", 0, 0);
            bounds(NEW, 1, 0, 20, "add", 0, 0);
            refused(ALL, FULL, "add", 0, 0);
            refused(ALL, FULL, "add", 20, 20);
            dueOf(then(ALL, x -> x.drop(9)), 10, "add", 20, 20);
            refused(then(ALL, x -> {
                x.drop(9);
                x.add(20, 20);
            }), FULL, "add", 0, 0);
        });
        sentence("15 drop", "CORNERS are the first n alone: how many there were. BAD", () -> {
            dueOf(NEW, 0, "drop", 0);
            refused(NEW, BAD, "drop", 1);
            bounds(SOME, 0, 0, 4, "drop", 0);
            bounds(ALL, 0, 0, 10, "drop", 0);
            unchanged(SOME, "drop", 4);
            unchanged(ALL, "drop", 10);
            for (int n = 0; n <= 9; n++) {
                WheelAreas x = made(ALL);
                due("drop", x.drop(n), 10);
                due("corners", x.rule(0), n);
                due("the first that is there no more", x.corner(n, 0), BAD);
                due("the last that is there", x.corner(n - 1, 1), n == 0 ? BAD : made(ALL).corner(n - 1, 1));
            }
        });
        sentence("16 pole", "THE POLE goes to X, Y: 100 times the X, and the Y that it had. BAD", () -> {
            bounds(SOME, 0, 0, 20, "pole", 5, 5);
            bounds(SOME, 1, 0, 20, "pole", 5, 5);
            WheelAreas x = new WheelAreas();
            due("pole", x.pole(20, 20), 0);
            due("pole", x.pole(20, 0), 2020);
            due("pole", x.pole(0, 20), 2000);
            due("pole", x.pole(0, 0), 20);
        });
    }

    // ---- promises 17 to 20

    private static void tracing() {
        sentence("17 trace", "n EDGES (0 to 100) are TRACED", () -> {
            bounds(NEW, 0, 0, 100, "trace", 0);
            bounds(SOME, 0, 0, 100, "trace", 0);
            unchanged(SOME, "trace", 0);
            WheelAreas x = made(told("plain 1;" + SQUARE));
            due("trace(100)", x.trace(100), 25 * 200);
            due("traced", x.rule(2), 100);
            due("reads", x.wheel(0, 2), ZERO + 25 * 200);
        });
        sentence("17 trace", "by how much all WHEELS ROLL in them, without signs, summed", () -> {
            dueOf(told(SQUARE), 0, "trace", 100);
            dueOf(told(WHEELS), 0, "trace", 100);
            dueOf(told(WHEELS + SQUARE), 0, "trace", 0);
            dueOf(told(WHEELS + SQUARE), 780, "trace", 4);
            dueOf(told(WHEELS + TURNED), 580, "trace", 4);
            // 20 and -20: what is read falls back, what is rolled does not.
            dueOf(told("plain 1;at 1 0;at 0 20;"), 2000, "trace", 100);
        });
        sentence("17 trace", "FULL: TRACED would be 10000 or more", () -> {
            Deed told = told(WHEELS + SQUARE);
            Deed to9899 = then(told, x -> traceAll(x, 9899));
            Deed to9900 = then(told, x -> traceAll(x, 9900));
            Deed to9998 = then(told, x -> traceAll(x, 9998));
            Deed to9999 = then(told, x -> traceAll(x, 9999));
            dueOf(to9899, 25 * 780, "trace", 100);
            refused(to9900, FULL, "trace", 100);
            dueOf(to9900, 25 * 780 - 117, "trace", 99);
            dueOf(to9998, 312, "trace", 1);
            refused(to9998, FULL, "trace", 2);
            dueOf(to9999, 0, "trace", 0);
            refused(to9999, FULL, "trace", 1);
            refused(to9999, FULL, "trace", 100);
            refused(x -> traceAll(x, 9999), FULL, "trace", 1);
            WheelAreas x = made(to9999);
            x.text();
            due("a text begins anew", x.trace(100), 0);
            due("traced", x.rule(2), 100);
        });
    }

    private static void running() {
        sentence("18 runs", "BY EDGES, n of them (0 to 200): by how much all WHEELS ROLL, as by trace() (what 0)", () -> {
            for (int what = 0; what <= 2; what++) {
                bounds(SOME, 0, 0, 200, "runs", 1, what);
            }
            bounds(SOME, 1, 0, 2, "runs", 1, 0);
            bounds(NEW, 1, 0, 2, "runs", 1, 0);
            dueOf(told(WHEELS + SQUARE), 0, "runs", 0, 0);
            dueOf(told(WHEELS + SQUARE), 78, "runs", 1, 0);
            dueOf(told(WHEELS + SQUARE), 780 + 78, "runs", 5, 0);
            dueOf(told(WHEELS + SQUARE), 50 * 780, "runs", 200, 0);
            dueOf(told(WHEELS + TURNED), 50 * 580, "runs", 200, 0);
            dueOf(NEW, 0, "runs", 200, 0);
            dueOf(told(WHEELS), 0, "runs", 200, 0);
        });
        sentence("18 runs", "in how many of them some WHEEL ROLLS nothing (1; without WHEELS, or CORNERS: 0)", () -> {
            dueOf(NEW, 0, "runs", 200, 1);
            dueOf(told(SQUARE), 0, "runs", 200, 1);
            dueOf(told(WHEELS), 0, "runs", 200, 1);
            dueOf(told(WHEELS + SQUARE), 0, "runs", 200, 1);
            dueOf(told(WHEELS + TURNED), 200, "runs", 200, 1);
            dueOf(told(WHEELS + TURNED), 0, "runs", 0, 1);
            // Sweeps 5 and -5: a stick one of 5 rolls by both, one of 6 by none; a free one by one of two.
            dueOf(told("stick 5;at 1 0;at 0 5;"), 0, "runs", 200, 1);
            dueOf(told("stick 6;at 1 0;at 0 5;"), 200, "runs", 200, 1);
            dueOf(told("free 5;at 1 0;at 0 5;"), 100, "runs", 200, 1);
            dueOf(told("plain 1;plain 1;plain 1;free 5;at 1 0;at 0 5;"), 0, "runs", 1, 1);
            dueOf(told("plain 1;plain 1;plain 1;free 5;at 1 0;at 0 5;"), 1, "runs", 2, 1);
            dueOf(told("coarse 6;at 1 0;at 0 5;"), 3, "runs", 3, 1);
            // One corner sweeps nothing: no wheel rolls.
            dueOf(told("plain 1;at 7 7;"), 200, "runs", 200, 1);
        });
        sentence("18 runs", "10000 more than the greatest SWEEP (2; NONE: none was TRACED, or there are no CORNERS)", () -> {
            refused(NEW, NONE, "runs", 0, 2);
            refused(NEW, NONE, "runs", 200, 2);
            refused(SOME, NONE, "runs", 0, 2);
            refused(then(SOME, x -> x.drop(0)), NONE, "runs", 200, 2);
            dueOf(told(SQUARE), 10020, "runs", 1, 2);
            dueOf(told(SQUARE), 10070, "runs", 2, 2);
            dueOf(told(SQUARE), 10080, "runs", 200, 2);
            dueOf(told(TURNED), 9920, "runs", 1, 2);
            dueOf(told(TURNED), 9930, "runs", 2, 2);
            dueOf(told(TURNED), 9980, "runs", 200, 2);
            dueOf(told("at 7 7;"), 10000, "runs", 1, 2);
            dueOf(then(told(SQUARE), x -> x.trace(3)), 10030, "runs", 2, 2);
        });
    }

    private static void aheadAndWhen() {
        sentence("19 ahead", "20000000 more than a WHEEL READS behind n of them (0 to 200). BAD", () -> {
            refused(NEW, BAD, "ahead", 0, 0);
            bounds(SOME, 0, 0, 2, "ahead", 0, 0);
            bounds(ALL, 0, 0, 3, "ahead", 0, 0);
            bounds(SOME, 1, 0, 200, "ahead", 0, 0);
            dueOf(SOME, ZERO + 220, "ahead", 0, 0);
            dueOf(SOME, ZERO + 220 + 70, "ahead", 0, 1);
            dueOf(SOME, ZERO + 220 + 50 * 200, "ahead", 0, 200);
            dueOf(then(SOME, x -> x.drop(0)), ZERO + 220, "ahead", 0, 200);
        });
        sentence("20 when", "behind how many (0 to 200) a WHEEL READS v less 20000000 (v 10000000 to 30000000), or more, first", () -> {
            refused(NEW, BAD, "when", 0, ZERO);
            bounds(SOME, 0, 0, 2, "when", 0, ZERO);
            bounds(ALL, 0, 0, 3, "when", 0, ZERO);
            bounds(SOME, 1, LEAST_TOLD, MOST_TOLD, "when", 0, ZERO);
            dueOf(SOME, 0, "when", 0, LEAST_TOLD);
            dueOf(SOME, 0, "when", 0, ZERO + 220);
            dueOf(SOME, 1, "when", 0, ZERO + 221);
            dueOf(SOME, 1, "when", 0, ZERO + 290);
            dueOf(SOME, 2, "when", 0, ZERO + 291);
            dueOf(SOME, 199, "when", 0, ZERO + 220 + 10000 - 20);
            dueOf(SOME, 200, "when", 0, ZERO + 220 + 10000 - 19);
            dueOf(SOME, 200, "when", 0, ZERO + 220 + 10000);
            // 20, 0, 20, ..: the first of several.
            dueOf(told("plain 1;at 1 0;at 0 20;"), 1, "when", 0, ZERO + 20);
            dueOf(told("plain 1;" + TURNED), 0, "when", 0, ZERO);
        });
        sentence("20 when", "NONE: behind none", () -> {
            refused(SOME, NONE, "when", 0, ZERO + 220 + 10000 + 1);
            refused(SOME, NONE, "when", 0, MOST_TOLD);
            refused(told("plain 1;"), NONE, "when", 0, ZERO + 1);
            refused(told("plain 1;" + TURNED), NONE, "when", 0, ZERO + 1);
            refused(told("plain 1;at 1 0;at 0 20;"), NONE, "when", 0, ZERO + 21);
        });
    }

    // ---- promises 21 to 23

    private static void eitherOfWheel(String name) {
        refused(NEW, BAD, name, 0, 0);
        bounds(SOME, 0, 0, 2, name, 0, 0);
        bounds(ALL, 0, 0, 3, name, 0, 1);
        bounds(SOME, 1, 0, 1, name, 0, 0);
        unchanged(SOME, name, 1, 0);
        unchanged(SOME, name, 1, 1);
    }

    private static void twice(Deed state, String name, int at, int which, int much) {
        dueOf(state, which, name, at, 0);
        dueOf(state, much, name, at, 1);
    }

    private static void bestOfWheels() {
        sentence("21 best", "100 times X, and Y, of several the least (what 0), how much (1). BAD", () -> {
            eitherOfWheel("best");
            twice(told("coarse 9;"), "best", 0, 0, 0);
            twice(told("coarse 9;pole 20 20;at 7 7;"), "best", 0, 0, 0);
            // There and back along two lines: a free one errs unless the pole is where they meet.
            twice(told("free 1;at 20 20;at 3 19;at 20 20;at 10 15;"), "best", 0, 2020, 0);
            twice(told("free 1;at 20 0;at 3 1;at 20 0;at 10 5;"), "best", 0, 2000, 0);
            twice(told("free 1;at 0 20;at 17 19;at 0 20;at 10 15;"), "best", 0, 20, 0);
            // There and back along one line X 20: on any Y of it.
            twice(told("free 1;at 20 0;at 20 20;"), "best", 0, 2000, 0);
            twice(told("free 1;at 0 20;at 20 20;"), "best", 0, 20, 0);
            // By X 21, by Y 21 nothing would be lost; but these are no places.
            twice(told("free 6;at 3 14;at 20 12;at 7 16;at 17 13;"), "best", 0, 1413, 1);
            twice(told("free 7;at 4 7;at 3 16;at 6 14;at 2 19;"), "best", 0, 119, 2);
        });
        sentence("22 step", "The STEP of a WHEEL by which its ERROR is least, of several the greatest (what 0), how much (1). BAD", () -> {
            eitherOfWheel("step");
            twice(told("plain 1;"), "step", 0, 9, 0);
            twice(told("coarse 1;at 1 0;at 0 18;"), "step", 0, 9, 0);
            // Edges of a triangle sweep 1, 0, 0: whole steps of 1 alone are there, and sticks of 1 alone roll.
            twice(told("coarse 9;at 1 0;at 0 1;at 0 0;"), "step", 0, 1, 0);
            twice(told("stick 9;at 1 0;at 0 1;at 0 0;"), "step", 0, 1, 0);
            twice(told("free 9;at 1 0;at 0 1;at 0 0;"), "step", 0, 1, 0);
            twice(told("stick 1;at 1 0;at 0 9;at 0 0;"), "step", 0, 9, 0);
            twice(told("stick 1;at 1 0;at 0 8;at 0 0;"), "step", 0, 8, 0);
            twice(told("free 1;" + TURNED), "step", 0, 9, 200);
        });
        sentence("23 kind", "The KIND of a WHEEL by which its ERROR is least, of several the first (what 0), how much (1). BAD", () -> {
            eitherOfWheel("kind");
            for (int w = 0; w < 4; w++) {
                twice(told(WHEELS), "kind", w, 0, 0);
                twice(told(WHEELS + SQUARE), "kind", w, 0, 0);
                twice(told(WHEELS + TURNED), "kind", w, 0, 0);
            }
        });
    }

    // ---- promises 24 to 26

    private static void bestOfCorners() {
        sentence("24 place", "100 times X, and Y, of several the least (what 0), how much (1). BAD", () -> {
            refused(NEW, BAD, "place", 0, 0);
            bounds(SOME, 0, 0, 3, "place", 0, 0);
            bounds(ALL, 0, 0, 9, "place", 0, 1);
            bounds(SOME, 1, 0, 1, "place", 0, 0);
            unchanged(SOME, "place", 1, 0);
            twice(told("at 7 7;"), "place", 0, 0, 0);
            twice(told("at 7 7;at 9 3;"), "place", 1, 0, 0);
            // The other two lie on a line: farthest off are the four sides' ends.
            twice(told("at 0 0;at 0 20;at 1 1;"), "place", 2, 2000, 400);
            twice(told("at 20 0;at 20 20;at 1 1;"), "place", 2, 0, 400);
            twice(told("at 0 0;at 20 0;at 1 1;"), "place", 2, 20, 400);
            twice(told("at 0 20;at 20 20;at 1 1;"), "place", 2, 0, 400);
            twice(told("at 0 20;at 1 0;at 1 1;"), "place", 2, 2020, 400);
            // As far on either side: the least of all.
            twice(told("at 10 0;at 10 20;at 5 5;"), "place", 2, 0, 200);
        });
        sentence("25 swap", "10 times the lesser and the greater, of several the least (what 0), how much (1). BAD", () -> {
            bounds(told("at 0 0;at 10 10;at 10 0;at 0 10;"), 0, 0, 1, "swap", 0);
            tooLittle(SOME, 0, 0, "swap", 0);
            tooMuch(SOME, 0, 1, "swap", 0);
            // A bow tie: 0 and 3, 1 and 2 make a square of it.
            Deed tie = told("at 0 0;at 10 10;at 10 0;at 0 10;");
            dueOf(tie, 3, "swap", 0);
            dueOf(tie, 200, "swap", 1);
            unchanged(tie, "swap", 0);
            // Ten corners round, the last two, the first two changed.
            String[] round = {"0 5", "2 1", "6 0", "12 0", "18 2", "20 8", "19 15", "13 20", "6 19", "1 14"};
            int area = made(told(texts(round))).rule(3) - 100000;
            for (int i = 0; i < 9; i++) {
                String[] changed = round.clone();
                changed[i] = round[i + 1];
                changed[i + 1] = round[i];
                dueOf(told(texts(changed)), 10 * i + i + 1, "swap", 0);
                dueOf(told(texts(changed)), area, "swap", 1);
            }
            String[] ends = round.clone();
            ends[0] = round[9];
            ends[9] = round[0];
            dueOf(told(texts(ends)), 9, "swap", 0);
            dueOf(told(texts(ends)), area, "swap", 1);
        });
        sentence("25 swap", "NONE: by none", () -> {
            Deed[] none = {NEW, told("at 1 1;"), told("at 1 1;at 9 3;"), told("at 0 0;at 9 3;at 1 7;"), told(SQUARE), told(TURNED),
                told("at 1 1;at 2 2;at 3 3;at 9 9;")};
            for (Deed state : none) {
                refused(state, NONE, "swap", 0);
                refused(state, NONE, "swap", 1);
            }
        });
        sentence("26 out", "more than as it is, of several the first (what 0), how much (1). BAD", () -> {
            tooLittle(NEW, 0, 0, "out", 0);
            tooMuch(NEW, 0, 1, "out", 0);
            bounds(told("at 0 0;at 10 0;at 10 10;at 5 5;at 0 10;"), 0, 0, 1, "out", 0);
            String[] square = {"0 0", "10 0", "10 10", "0 10"};
            // A dent ahead of the first, behind the last, of ten.
            dueOf(told("at 4 5;" + texts(square)), 0, "out", 0);
            dueOf(told("at 4 5;" + texts(square)), 200, "out", 1);
            dueOf(told(texts(square) + "at 4 5;"), 4, "out", 0);
            dueOf(told(texts(square) + "at 4 5;"), 200, "out", 1);
            String line = "at 0 9;at 0 8;at 0 7;at 0 6;at 0 5;";
            dueOf(told(texts(square) + line + "at 4 4;"), 9, "out", 0);
            dueOf(told(texts(square) + line + "at 4 4;"), 200, "out", 1);
            // A bow tie without any one of its corners encloses 100.
            dueOf(told("at 0 0;at 10 10;at 10 0;at 0 10;"), 0, "out", 0);
            dueOf(told("at 0 0;at 10 10;at 10 0;at 0 10;"), 100, "out", 1);
        });
        sentence("26 out", "NONE: none", () -> {
            // In the last a corner lies on the line of its neighbours: without it there is as much, not more.
            Deed[] none = {NEW, told("at 1 1;"), told("at 1 1;at 9 3;"), told("at 0 0;at 9 3;at 1 7;"), told(SQUARE), told(TURNED),
                told("at 0 0;at 5 0;at 10 0;at 10 10;at 0 10;")};
            for (Deed state : none) {
                refused(state, NONE, "out", 0);
                refused(state, NONE, "out", 1);
            }
        });
    }

    private static String texts(String[] places) {
        StringBuilder all = new StringBuilder();
        for (String place : places) {
            all.append("at ").append(place).append(';');
        }
        return all.toString();
    }

    // ---- promises 27, 28

    private static void lucky() {
        sentence("27 luck", "Each of n EDGES (0 to 8) is missed by v out of ten (0 to 10), by itself", () -> {
            for (int what = 0; what <= 1; what++) {
                bounds(SOME, 0, 0, 10, "luck", 5, 0, ZERO, 1, what);
                bounds(SOME, 3, 0, 8, "luck", 5, 0, ZERO, 1, what);
            }
            Deed told = told("plain 1;" + SQUARE);
            // None is missed, all are.
            fraction(told, 1, 1, "luck", 0, 0, ZERO + 400, 8);
            fraction(told, 0, 1, "luck", 0, 0, ZERO + 401, 8);
            fraction(told, 1, 1, "luck", 10, 0, ZERO, 8);
            fraction(told, 0, 1, "luck", 10, 0, ZERO + 1, 8);
            fraction(told, 1, 1, "luck", 5, 0, ZERO, 0);
            fraction(told, 0, 1, "luck", 5, 0, ZERO + 1, 0);
            // All 8, all but one of the two that sweep least: 380 or more.
            fraction(told, 1, 256, "luck", 5, 0, ZERO + 381, 8);
            fraction(told, 3, 256, "luck", 5, 0, ZERO + 380, 8);
            // 80 by the third edge, whether those ahead were missed or not; 90 by those two alone.
            fraction(told, 5, 8, "luck", 5, 0, ZERO + 80, 3);
            fraction(told, 3, 8, "luck", 5, 0, ZERO + 91, 3);
        });
        sentence("27 luck", "that a WHEEL READS e less 20000000 (e 10000000 to 30000000), or more, behind them: 0, 1. BAD", () -> {
            refused(NEW, BAD, "luck", 0, 0, ZERO, 0, 0);
            bounds(SOME, 1, 0, 2, "luck", 5, 0, ZERO, 1, 0);
            bounds(ALL, 1, 0, 3, "luck", 5, 0, ZERO, 1, 1);
            bounds(SOME, 2, LEAST_TOLD, MOST_TOLD, "luck", 5, 0, ZERO, 1, 0);
            bounds(SOME, 4, 0, 1, "luck", 5, 0, ZERO, 1, 0);
            fraction(SOME, 1, 1, "luck", 3, 0, ZERO + 220, 1);
            fraction(SOME, 7, 10, "luck", 3, 0, ZERO + 221, 1);
            fraction(SOME, 7, 10, "luck", 3, 0, ZERO + 290, 1);
            fraction(SOME, 0, 1, "luck", 3, 0, ZERO + 291, 1);
            fraction(then(SOME, x -> x.drop(0)), 1, 1, "luck", 3, 0, ZERO + 220, 8);
            fraction(then(SOME, x -> x.drop(0)), 0, 1, "luck", 3, 0, ZERO + 221, 8);
        });
    }

    private static void fraction(Deed state, long above, long below, String name, int... a) {
        int[] numbers = java.util.Arrays.copyOf(a, a.length + 1);
        dueOf(state, above, name, numbers);
        numbers[a.length] = 1;
        dueOf(state, below, name, numbers);
        unchanged(state, name, numbers);
    }

    private static void meaning() {
        sentence("28 mean", "Likewise, the mean of what a WHEEL READS, without sign: 0, 1. BAD", () -> {
            refused(NEW, BAD, "mean", 0, 0, 0, 0);
            bounds(SOME, 0, 0, 10, "mean", 5, 0, 1, 0);
            bounds(SOME, 1, 0, 2, "mean", 5, 0, 1, 0);
            bounds(ALL, 1, 0, 3, "mean", 5, 0, 1, 1);
            bounds(SOME, 2, 0, 8, "mean", 5, 0, 1, 1);
            bounds(SOME, 3, 0, 1, "mean", 5, 0, 1, 0);
            Deed told = told("plain 1;" + SQUARE);
            fraction(told, 0, 1, "mean", 5, 0, 0);
            fraction(told, 400, 1, "mean", 0, 0, 8);
            fraction(told, 0, 1, "mean", 10, 0, 8);
            fraction(told, 200, 1, "mean", 5, 0, 8);
            fraction(told, 280, 1, "mean", 3, 0, 8);
            fraction(SOME, 220, 1, "mean", 5, 0, 0);
            fraction(SOME, 220, 1, "mean", 10, 0, 8);
            fraction(told("plain 1;" + TURNED), 40, 1, "mean", 5, 0, 1);
            // 20 and -20: 0, 20, -20, 0.
            fraction(told("plain 1;at 1 0;at 0 20;"), 10, 1, "mean", 5, 0, 2);
            // Sweeps 1, 0, 0: three of eight edges sweep 1, each traced by one out of ten.
            fraction(told("plain 1;at 1 0;at 0 1;at 0 0;"), 3, 10, "mean", 9, 0, 8);
            fraction(told("plain 1;"), 0, 1, "mean", 5, 0, 8);
        });
    }

    // ---- promises 29 to 33

    private static void seeing() {
        sentence("29 see", "behind n EDGES (0 to 40) a WHEEL READS v less 20000000 (v 10000000 to 30000000): how many are. BAD", () -> {
            refused(NEW, BAD, "see", 0, 0, ZERO);
            bounds(SOME, 0, 0, 40, "see", 0, 0, ZERO);
            bounds(SOME, 1, 0, 2, "see", 0, 0, ZERO);
            bounds(then(ALL, x -> x.forget(5)), 1, 0, 3, "see", 0, 0, ZERO);
            bounds(SOME, 2, LEAST_TOLD, MOST_TOLD, "see", 0, 0, ZERO);
            dueOf(SOME, 3, "see", 40, 2, MOST_TOLD);
            dueOf(told("plain 1;"), 1, "see", 0, 0, LEAST_TOLD);
        });
        sentence("29 see", "FULL", () -> {
            refused(ALL, FULL, "see", 0, 0, ZERO);
            refused(ALL, FULL, "see", 40, 3, MOST_TOLD);
            dueOf(then(ALL, x -> x.forget(5)), 6, "see", 0, 0, ZERO);
            refused(then(ALL, x -> {
                x.forget(5);
                x.see(0, 0, ZERO);
            }), FULL, "see", 0, 0, ZERO);
        });
        sentence("30 forget", "SEEN are the first n alone: how many there were. BAD", () -> {
            dueOf(NEW, 0, "forget", 0);
            refused(NEW, BAD, "forget", 1);
            bounds(SOME, 0, 0, 2, "forget", 0);
            bounds(ALL, 0, 0, 6, "forget", 0);
            unchanged(SOME, "forget", 2);
            unchanged(ALL, "forget", 6);
            // The second is not so, the first is.
            WheelAreas x = made(told("plain 1;" + SQUARE));
            x.see(1, 0, ZERO + 20);
            x.see(1, 0, ZERO + 21);
            due("both", x.kinds(0), 0);
            due("forget", x.forget(1), 2);
            due("the first", x.kinds(0), 15);
            x.see(0, 0, ZERO);
            due("seen", x.count(0), 2);
            due("both again", x.kinds(0), 15);
        });
    }

    private static void asSeen() {
        sentence("31 kinds", "KINDS of a WHEEL (bits) by which, all else as it is, all is as SEEN. BAD", () -> {
            refused(NEW, BAD, "kinds", 0);
            bounds(SOME, 0, 0, 2, "kinds", 0);
            bounds(ALL, 0, 0, 3, "kinds", 0);
            unchanged(SOME, "kinds", 1);
            for (int w = 0; w < 4; w++) {
                // Nothing is seen; what is so for all; what can not be.
                dueOf(told(WHEELS + SQUARE), 15, "kinds", w);
                dueOf(then(told(WHEELS + SQUARE), x -> x.see(0, 3, ZERO)), 15, "kinds", w);
                dueOf(then(told(WHEELS + SQUARE), x -> x.see(40, 3, MOST_TOLD)), 0, "kinds", w);
                dueOf(then(told(WHEELS + SQUARE), x -> x.see(40, 3, LEAST_TOLD)), 0, "kinds", w);
            }
            dueOf(then(told("free 5;at 1 0;at 0 5;"), x -> x.see(40, 0, ZERO + 100)), 8, "kinds", 0);
            dueOf(then(told("free 5;at 1 0;at 0 5;"), x -> x.see(40, 0, ZERO)), 7, "kinds", 0);
            dueOf(then(told("free 5;at 1 0;at 0 5;"), x -> x.see(39, 0, ZERO + 100)), 8, "kinds", 0);
            dueOf(then(told("free 5;at 1 0;at 0 5;"), x -> x.see(39, 0, ZERO + 5)), 7, "kinds", 0);
        });
        sentence("31 kinds", "(What is SEEN of a WHEEL that is there no more is never so.)", () -> {
            Deed seen = then(told(WHEELS + SQUARE), x -> x.see(0, 3, ZERO));
            dueOf(then(seen, x -> x.cut(3)), 0, "kinds", 0);
            dueOf(then(seen, x -> x.cut(3)), 0, "kinds", 2);
            dueOf(then(seen, x -> x.cut(3)), 0, "steps", 2);
            dueOf(then(seen, x -> x.cut(3)), NONE, "ask", 1, 0);
            dueOf(then(seen, x -> x.cut(3)), 1, "count", 0);
            dueOf(then(seen, x -> x.cut(4)), 15, "kinds", 0);
            dueOf(then(then(seen, x -> x.cut(3)), x -> x.forget(0)), 15, "kinds", 0);
        });
        sentence("32 steps", "STEPS of a WHEEL (bits 1 to 9) by which, all else as it is, all is as SEEN. BAD", () -> {
            refused(NEW, BAD, "steps", 0);
            bounds(SOME, 0, 0, 2, "steps", 0);
            bounds(ALL, 0, 0, 3, "steps", 0);
            unchanged(SOME, "steps", 1);
            dueOf(told(WHEELS), 1022, "steps", 3);
            dueOf(then(told(WHEELS), x -> x.see(40, 3, ZERO)), 1022, "steps", 3);
            dueOf(then(told(WHEELS), x -> x.see(40, 3, ZERO + 1)), 0, "steps", 3);
            // A stick one rolls 1 by STEP 1 alone; it rests at 8 by 9 alone.
            dueOf(then(told("stick 5;at 1 0;at 0 1;"), x -> x.see(1, 0, ZERO + 1)), 2, "steps", 0);
            dueOf(then(told("stick 5;at 1 0;at 0 1;"), x -> x.see(1, 0, ZERO)), 1020, "steps", 0);
            dueOf(then(told("stick 5;at 1 0;at 0 8;"), x -> x.see(1, 0, ZERO)), 512, "steps", 0);
            dueOf(then(told("stick 5;at 1 0;at 0 8;"), x -> x.see(1, 0, ZERO + 8)), 510, "steps", 0);
            dueOf(then(told("stick 5;at 1 0;at 0 9;"), x -> x.see(1, 0, ZERO + 9)), 1022, "steps", 0);
        });
    }

    private static final String FOUND_AT_40 = "coarse 1;at 1 4;at 0 4;at 3 0;at 0 4;at 1 1;at 5 1;at 3 3;at 4 0;at 0 4;pole 7 16;";
    private static final String BETTER_AT_41 = "coarse 1;at 5 3;at 0 4;at 3 3;at 1 2;at 2 0;at 5 5;at 1 1;at 5 5;at 1 2;pole 2 0;";

    /** How many steps of a coarse wheel read alike at the worst behind n edges, told from ahead() by each step. */
    private static int alike(Deed state, int n) {
        int[] reads = new int[10];
        int worst = 0;
        for (int step = 1; step <= 9; step++) {
            WheelAreas x = made(state);
            x.alter(0, 1, step);
            reads[step] = x.ahead(0, n);
            int same = 0;
            for (int other = 1; other <= step; other++) {
                same += reads[other] == reads[step] ? 1 : 0;
            }
            worst = Math.max(worst, same);
        }
        return worst;
    }

    private static void asking() {
        sentence("33 ask", "Behind how many EDGES (0 to 40) to read what a WHEEL READS", () -> {
            Deed at40 = told(FOUND_AT_40);
            due("behind 39", alike(at40, 39) > 1 ? 1 : 0, 1);
            due("behind 40", alike(at40, 40), 1);
            twice(at40, "ask", 0, 40, 1);
            unchanged(at40, "ask", 0, 0);
            Deed at41 = then(told(BETTER_AT_41), x -> x.trace(6));
            due("behind 41", alike(at41, 41), 1);
            int fewest = 9;
            for (int n = 0; n <= 40; n++) {
                fewest = Math.min(fewest, alike(at41, n));
            }
            due("more are left behind 40 at most", fewest > 1 ? 1 : 0, 1);
            twice(at41, "ask", 0, 11, fewest);
        });
        sentence("33 ask", "fewest are left at the worst, fewer than now, the first (what 0), how many these are (1). BAD", () -> {
            eitherOfWheel("ask");
            // Sweeps 9 and -9: 9 by 1, 3, 9; 8 by 2, 4, 8; 5 by 5; 6 by 6; 7 by 7. Behind two nothing is told.
            twice(told("coarse 1;at 1 0;at 0 9;"), "ask", 0, 1, 3);
            twice(told("stick 1;at 1 0;at 0 1;"), "ask", 0, 1, 8);
            // Asked again, and behind another path's answer, it is the same.
            Deed asked = then(told("coarse 1;at 1 0;at 0 9;"), x -> x.ask(0, 0));
            twice(asked, "ask", 0, 1, 3);
            twice(then(then(asked, x -> x.trace(1)), x -> x.ask(0, 0)), "ask", 0, 1, 3);
            twice(then(asked, told("stick 1;at 1 0;at 0 8;")), "ask", 0, 1, 8);
            twice(told("stick 1;at 1 0;at 0 8;"), "ask", 0, 1, 8);
            // The first edge sweeps 0, the second 1.
            twice(told("free 1;at 0 0;at 1 0;at 0 1;"), "ask", 0, 2, 8);
            // 2, 4, 8 are left, and all three read 8: the edge from 0, 9 to 0, 0 sweeps nothing that would tell them.
            Deed three = then(told("coarse 2;at 1 0;at 0 9;at 0 0;"), x -> x.see(1, 0, ZERO + 8));
            dueOf(three, 4 + 16 + 256, "steps", 0);
            twice(three, "ask", 0, NONE, NONE);
            // Two more corners sweep 6 between them: 6, 4, 0.
            Deed told = then(told("coarse 2;at 1 0;at 0 9;at 0 0;at 6 0;at 0 1;"), x -> x.see(1, 0, ZERO + 8));
            twice(told, "ask", 0, 4, 1);
        });
        sentence("33 ask", "NONE: behind none", () -> {
            Deed[] none = {told("plain 1;" + SQUARE), told("coarse 1;"), told("coarse 1;at 7 7;"), told("stick 1;at 1 0;at 0 9;"),
                then(told("stick 1;at 1 0;at 0 1;"), x -> x.see(1, 0, ZERO + 1)),
                then(told("stick 1;at 1 0;at 0 8;"), x -> x.see(1, 0, ZERO)),
                then(told("stick 1;at 1 0;at 0 1;"), x -> x.see(1, 0, ZERO + 2))};
            for (Deed state : none) {
                refused(state, NONE, "ask", 0, 0);
                refused(state, NONE, "ask", 0, 1);
            }
        });
    }

    // ---- promise 34

    private static void drifting() {
        sentence("34 drift", "n times (1 to 200) by a seed", () -> {
            bounds(SOME, 1, 1, 200, "drift", 7, 1, 0);
            bounds(SOME, 1, 1, 200, "drift", 7, 1, 1);
            bounds(SOME, 2, 0, 1, "drift", 7, 1, 0);
            for (int seed : new int[] {MIN, MIN + 1, -1, 0, 1, MAX - 1, MAX}) {
                driftOf(seed, 1);
                driftOf(seed, 200);
                unchanged(SOME, "drift", seed, 200, 0);
            }
        });
        sentence("34 drift", "By itself", () -> {
            // One drift does not begin where another ended.
            WheelAreas x = made(SOME);
            int reads = x.drift(7, 200, 0);
            int rolled = x.drift(7, 200, 1);
            for (int i = 0; i < 3; i++) {
                due("drift again", x.drift(7, 200, 0), reads);
                due("drift again", x.drift(7, 200, 1), rolled);
            }
            due("reads", x.wheel(0, 2), ZERO + 220);
        });
        sentence("34 drift", "bits 16 to 30 of it are got: EDGE got modulo CORNERS is TRACED", () -> {
            // Seeds that become -1, all bits, and the least below it: what is got is 32767, 32768 is never.
            driftOf(seedOf(-1), 1);
            driftOf(seedOf(MIN), 1);
            driftOf(seedOf(MIN + 65535), 1);
            driftOf(seedOf(MIN + 65536), 1);
            driftOf(seedOf(MAX), 1);
            driftOf(seedOf(65535), 1);
            driftOf(seedOf(65536), 1);
            driftOf(seedOf(0x7fff0000), 1);
            dueOf(told("plain 1;at 7 7;"), ZERO, "drift", 7, 200, 0);
        });
        sentence("34 drift", "BAD; STATE: there are no WHEELS, or no CORNERS", () -> {
            refused(NEW, STATE, "drift", 1, 1, 0);
            refused(told(WHEELS), STATE, "drift", 1, 1, 0);
            refused(told(SQUARE), STATE, "drift", 1, 200, 1);
            refused(told(WHEELS), BAD, "drift", 1, 0, 0);
            refused(told(SQUARE), BAD, "drift", 1, 201, 1);
            refused(told(SQUARE), BAD, "drift", 1, 1, -1);
            dueOf(told("plain 1;at 7 7;"), 0, "drift", 1, 1, 1);
        });
    }

    /** The seed that becomes that: 1103515245 is odd, so there is one. */
    private static int seedOf(int next) {
        int inverse = 1;
        for (int i = 0; i < 5; i++) {
            inverse *= 2 - 1103515245 * inverse;
        }
        return (next - 12345) * inverse;
    }

    private static void driftOf(int seed, int n) {
        int[] sweeps = {20, 70, 80, 30};
        int[] rolls = {58, 203, 232, 87};
        long next = seed;
        int reads = 220;
        int rolled = 0;
        for (int i = 0; i < n; i++) {
            next = (next * 1103515245L + 12345L) & 0xffffffffL;
            int edge = (int) (next / 65536 % 32768 % 4);
            reads += sweeps[edge];
            rolled += rolls[edge];
        }
        dueOf(SOME, ZERO + reads, "drift", seed, n, 0);
        dueOf(SOME, rolled, "drift", seed, n, 1);
    }

    // ---- promises 35, 36

    private static void images() {
        sentence("35 keep", "IMAGE k (0, 1) is CORNERS, WHEELS (all of them), THE POLE, TRACED: whether there was one (1, 0). BAD", () -> {
            bounds(SOME, 0, 0, 1, "keep", 0);
            bounds(ALL, 0, 0, 1, "keep", 0);
            dueOf(NEW, 0, "keep", 0);
            dueOf(NEW, 0, "keep", 1);
            dueOf(SOME, 1, "keep", 0);
            dueOf(SOME, 0, "keep", 1);
            dueOf(then(SOME, x -> x.text()), 0, "keep", 0);
            WheelAreas x = made(ALL);
            String all = now(x);
            x.keep(0);
            x.zero(3);
            x.alter(3, 0, 0);
            x.alter(3, 1, 9);
            x.shift(9, 20, 20);
            x.pole(20, 20);
            x.trace(1);
            x.cut(0);
            x.drop(0);
            due("back", x.back(0), 15);
            same("back", now(x), all);
            due("the other image is its own", x.back(1), 15);
        });
        sentence("36 back", "All is as IMAGE k: TRACED. BAD; STATE: there is none", () -> {
            bounds(ALL, 0, 0, 1, "back", 0);
            tooLittle(NEW, 0, 0, "back", 0);
            tooMuch(NEW, 0, 1, "back", 0);
            refused(NEW, STATE, "back", 0);
            refused(NEW, STATE, "back", 1);
            refused(SOME, STATE, "back", 1);
            dueOf(SOME, 3, "back", 0);
            dueOf(ALL, 7, "back", 0);
            dueOf(ALL, 15, "back", 1);
            dueOf(then(ALL, x -> x.back(0)), 7, "back", 0);
            dueOf(then(ALL, x -> x.text()), STATE, "back", 0);
            dueOf(then(ALL, x -> x.text()), STATE, "back", 1);
            // An image of nothing is one.
            Deed empty = x -> {
                x.keep(1);
                x.add(1, 1);
            };
            dueOf(empty, 0, "back", 1);
            dueOf(then(empty, x -> x.back(1)), 0, "rule", 0);
            Deed far = then(then(NEW, x -> traceAll(x, 9999)), x -> x.keep(0));
            dueOf(far, 9999, "back", 0);
            refused(then(far, x -> x.back(0)), FULL, "trace", 1);
        });
    }

    // ---- promises 37, 38

    private static void sheets() {
        sentence("37 sheet", "A SHEET is a new row of CELLS 0: 1. BAD: also n above 40", () -> {
            bounds(SOME, 0, 0, 3, "sheet", 0, 0, 4);
            bounds(SOME, 1, 0, 2, "sheet", 0, 0, 4);
            for (int lane = 0; lane <= 2; lane++) {
                dueOf(SOME, 1, "sheet", 3, lane, 0);
                dueOf(SOME, 1, "sheet", 3, lane, 40);
                tooMuch(SOME, 2, 40, "sheet", 0, lane, 4);
                tooMuch(NEW, 2, 40, "sheet", 3, lane, 4);
            }
            // As many cells as before, but new ones.
            WheelAreas x = made(ALL);
            for (int lane = 0; lane <= 2; lane++) {
                due("sheet", x.sheet(0, lane, 40), 1);
                for (int f = 0; f <= 20; f += 20) {
                    x.drop(0);
                    due("read", x.read(0, lane, f, 10), 10);
                    due("cells are 0", x.count(5), 0);
                }
                for (int i = 0; i < 40; i++) {
                    x.lay(0, i, 20);
                }
            }
        });
        sentence("37 sheet", "-10 - 4", () -> {
            for (int lane = 0; lane <= 2; lane++) {
                for (int k = 0; k <= 3; k++) {
                    refused(SOME, -14, "sheet", k, lane, -1);
                }
                refused(SOME, -14, "sheet", 1, lane, MIN);
                refused(NEW, -14, "sheet", 0, lane, -1);
            }
        });
        sentence("38 lay", "CELL i of a SHEET becomes v (its lowest bits): 1", () -> {
            int[] kept = {20, 0, 256 + 7, -256 + 9, 65536 + 7, -65536 + 9, 1 << 24, MIN, 255, 128, 65535, 32768, -1, MAX, MIN + 3};
            for (int v : kept) {
                cellIs(0, v, (byte) v);
                cellIs(1, v, (short) v);
                cellIs(2, v, v);
            }
        });
        sentence("38 lay", "BAD: k; -10 less the FAULT: NULL, INDEX", () -> {
            tooLittle(SOME, 0, 0, "lay", 0, 0, 5);
            tooMuch(SOME, 0, 3, "lay", 0, 0, 5);
            for (int i : new int[] {0, -1, 39, 40, MIN, MAX}) {
                refused(SOME, -11, "lay", 3, i, 5);
                refused(NEW, -11, "lay", 0, i, 5);
            }
            int[] cells = {4, 6, 5};
            for (int k = 0; k <= 2; k++) {
                dueOf(SOME, 1, "lay", k, 0, 5);
                dueOf(SOME, 1, "lay", k, cells[k] - 1, 5);
                for (int i : new int[] {-1, cells[k], MIN, MAX}) {
                    refused(SOME, -12, "lay", k, i, 5);
                }
            }
            dueOf(ALL, 1, "lay", 0, 39, 5);
            refused(ALL, -12, "lay", 0, 40, 5);
            refused(x -> x.sheet(0, 0, 0), -12, "lay", 0, 0, 5);
        });
    }

    /** The cell is told by whether it can be a corner's X. */
    private static void cellIs(int lane, int v, int kept) {
        WheelAreas x = new WheelAreas();
        x.sheet(0, lane, 2);
        due("lay of " + v, x.lay(0, 0, v), 1);
        boolean isPlace = kept >= 0 && kept <= 20;
        due("read of " + v + " in lane " + lane, x.read(0, lane, 0, 1), isPlace ? 1 : -20);
        due("X of " + v + " in lane " + lane, x.corner(0, 0), isPlace ? kept : BAD);
    }

    // ---- promises 39, 40

    private static void reading() {
        sentence("39 read", "n (0 to 20) CORNERS (X, Y) are read of a SHEET taken as of a lane", () -> {
            bounds(SOME, 3, 0, 20, "read", 1, 1, 0, 1);
            tooLittle(SOME, 3, 0, "read", 3, 0, 0, 1);
            tooMuch(SOME, 3, 20, "read", 3, 0, 0, 1);
            dueOf(SOME, 0, "read", 1, 1, 0, 0);
            dueOf(SOME, 3, "read", 1, 1, 0, 3);
            dueOf(SOME, 3, "read", 1, 1, 0, 20);
        });
        sentence("39 read", "two CELLS each from CELL f on, one behind another as by add(): how many came", () -> {
            // Sheet 1 has 5 to 10.
            int[] came = {3, 2, 2, 1, 1, 0, 0};
            for (int f = 0; f <= 6; f++) {
                WheelAreas x = made(SOME);
                due("read from " + f, x.read(1, 1, f, 20), came[f]);
                due("corners", x.rule(0), 4 + came[f]);
                for (int i = 0; i < came[f]; i++) {
                    due("X", x.corner(4 + i, 0), 5 + f + 2 * i);
                    due("Y", x.corner(4 + i, 1), 6 + f + 2 * i);
                }
            }
            for (int f : new int[] {-1, -2, MIN, MIN + 1, 40, MAX - 1, MAX}) {
                dueOf(SOME, 0, "read", 1, 1, f, 1);
                dueOf(SOME, 0, "read", 1, 1, f, 20);
            }
            Deed room = then(ALL, x -> x.drop(0));
            dueOf(room, 1, "read", 3, 0, 38, 1);
            dueOf(room, 1, "read", 3, 0, 38, 20);
            dueOf(room, 0, "read", 3, 0, 39, 1);
            dueOf(room, 0, "read", 3, 0, 40, 1);
            dueOf(room, 10, "read", 3, 0, 0, 10);
            dueOf(room, 10, "read", 3, 0, 20, 10);
            dueOf(room, 10, "read", 3, 0, 20, 20);
            dueOf(room, 9, "read", 3, 0, 21, 20);
        });
        sentence("39 read", "What the machine refuses: those that were whole ahead came (its FAULT is asked by torn())", () -> {
            // Half a corner is none, though its X is there, whether it is good or not.
            tears(x -> layAll(x, 0, 0, 5, 1, 2, 3, 4, 5), 0, 0, 3, 2, 2);
            tears(x -> layAll(x, 0, 0, 5, 1, 2, 3, 4, 99), 0, 0, 3, 2, 2);
            tears(x -> layAll(x, 0, 0, 4, 1, 2, 3, 4), 0, 0, 3, 2, 2);
            tears(x -> layAll(x, 0, 0, 4, 1, 2, 3, 4), 0, 0, 2, 2, 0);
            tears(x -> layAll(x, 0, 0, 4, 99, 2, 3, 4), 0, -1, 1, 0, 2);
            tears(x -> layAll(x, 0, 0, 1, 99), 0, 0, 1, 0, 2);
            tears(x -> layAll(x, 0, 0, 0), 0, 0, 1, 0, 2);
            tears(x -> layAll(x, 0, 0, 4, 1, 2, 3, 4), 1, 0, 2, 0, 3);
            tears(x -> layAll(x, 0, 0, 4, 1, 2, 3, 4), 2, 99, 2, 0, 3);
            tears(x -> layAll(x, 0, 2, 0), 1, 0, 1, 0, 3);
            tears(NEW, 2, -1, 1, 0, 1);
            // All ten are there: what the machine refuses is met ahead of the 11th.
            tears(then(ALL, x -> layAll(x, 0, 0, 1, 99)), 0, 0, 1, 0, 2);
            tears(then(ALL, x -> layAll(x, 0, 0, 1, 99)), 1, 0, 1, 0, 3);
        });
        sentence("39 read", "BAD: k, lane, n", () -> {
            for (int n : new int[] {0, 1, 20}) {
                bounds(SOME, 0, 0, 3, "read", 1, 1, 0, n);
                bounds(SOME, 1, 0, 2, "read", 3, 1, 0, n);
            }
            bounds(SOME, 3, 0, 20, "read", 1, 1, 0, 1);
        });
        sentence("39 read", "-20 less i: the i-th, whole, is refused by add() (in either way): then none came; the first met", () -> {
            for (int i = 0; i < 10; i++) {
                int at = i;
                refused(x -> layOdd(x, 2 * at, 21), -20 - i, "read", 0, 2, 0, 20);
                refused(x -> layOdd(x, 2 * at + 1, -1), -20 - i, "read", 0, 2, 0, 20);
                refused(x -> layOdd(x, 2 * at + 1, 21), -20 - i, "read", 0, 2, 0, i + 1);
                dueOf(x -> layOdd(x, 2 * at, 21), i, "read", 0, 2, 0, i);
            }
            // The 11th, the other way; with n corners there it is the (11 - n)-th.
            refused(x -> layOdd(x, 0, 1), -30, "read", 0, 2, 0, 11);
            refused(x -> layOdd(x, 0, 1), -30, "read", 0, 2, 0, 20);
            dueOf(x -> layOdd(x, 0, 1), 10, "read", 0, 2, 0, 10);
            refused(ALL, -20, "read", 0, 0, 0, 1);
            refused(ALL, -20, "read", 0, 0, 0, 20);
            dueOf(ALL, 0, "read", 0, 0, 0, 0);
            Deed nine = then(ALL, x -> x.drop(9));
            dueOf(nine, 1, "read", 0, 0, 0, 1);
            refused(nine, -21, "read", 0, 0, 0, 2);
            // A corner that is not good is met ahead of the end, behind it not.
            refused(x -> layAll(x, 0, 0, 3, 1, 21, 2), -20, "read", 0, 0, 0, 2);
            dueOf(x -> layAll(x, 0, 0, 3, 1, 2, 21), 1, "read", 0, 0, 0, 2);
        });
        sentence("40 torn", "The FAULT of the latest read() that came to an end; 0", () -> {
            due("no read yet", new WheelAreas().torn(), 0);
            WheelAreas x = made(SOME);
            due("CAST", x.torn(), 3);
            x.read(3, 0, 0, 1);
            due("NULL", x.torn(), 1);
            x.read(1, 1, 5, 1);
            due("INDEX", x.torn(), 2);
            x.read(4, 0, 0, 1);
            x.read(1, 3, 0, 1);
            x.read(1, 1, 0, 21);
            due("BAD is no end", x.torn(), 2);
            x.lay(1, 0, 21);
            due("refused by add()", x.read(1, 1, 0, 1), -20);
            due("nor is that", x.torn(), 2);
            x.lay(3, 0, 0);
            x.sheet(3, 0, -1);
            due("other FAULTS are none of its", x.torn(), 2);
            x.read(1, 1, 2, 1);
            due("whole", x.torn(), 0);
            x.read(3, 0, 0, 1);
            x.read(1, 1, 0, 0);
            due("none asked for", x.torn(), 0);
        });
    }

    /** Twenty corners in ints, all 1, 1 but for one cell. */
    private static void layOdd(WheelAreas x, int at, int v) {
        x.sheet(0, 2, 40);
        for (int i = 0; i < 40; i++) {
            x.lay(0, i, i == at ? v : 1);
        }
    }

    /** Read of sheet 0: how many come and what is torn; the corners that were there stay ahead of them. */
    private static void tears(Deed state, int lane, int f, int n, int came, int fault) {
        WheelAreas x = made(state);
        int there = x.rule(0);
        due("read", x.read(0, lane, f, n), came);
        due("corners", x.rule(0), there + came);
        due("torn", x.torn(), fault);
    }

    // ---- promise 41

    private static void counting() {
        sentence("41 count", "0 SEEN, 1 IMAGES, 2 bytes on THE TAPE", () -> {
            int[][] due = {{0, 0, 0}, {2, 1, 15}, {6, 2, 160}};
            Deed[] states = {NEW, SOME, ALL};
            for (int s = 0; s < 3; s++) {
                for (int what = 0; what <= 2; what++) {
                    dueOf(states[s], due[s][what], "count", what);
                }
            }
            dueOf(x -> x.keep(1), 1, "count", 1);
        });
        sentence("41 count", "3 CELLS of SHEET 0 (NONE: nothing)", () -> {
            refused(NEW, NONE, "count", 3);
            refused(x -> x.sheet(1, 0, 40), NONE, "count", 3);
            refused(x -> x.sheet(0, 0, -1), NONE, "count", 3);
            dueOf(x -> x.sheet(0, 2, 0), 0, "count", 3);
            dueOf(x -> x.sheet(0, 1, 40), 40, "count", 3);
            dueOf(then(ALL, x -> x.sheet(0, 1, 0)), 0, "count", 3);
        });
        sentence("41 count", "4 STEPS of all WHEELS, 5 X and Y of all CORNERS, summed. BAD", () -> {
            dueOf(NEW, 0, "count", 4);
            dueOf(NEW, 0, "count", 5);
            dueOf(ALL, 23, "count", 4);
            dueOf(ALL, 40 + 2 * 39, "count", 5);
            dueOf(then(ALL, x -> x.cut(0)), 0, "count", 4);
            dueOf(then(ALL, x -> x.drop(0)), 0, "count", 5);
            dueOf(told("plain 9;".repeat(4)), 36, "count", 4);
            dueOf(told("at 20 20;".repeat(10)), 400, "count", 5);
            bounds(NEW, 0, 0, 5, "count", 0);
            bounds(ALL, 0, 0, 5, "count", 0);
        });
    }
}

/** The boundaries that "Terms" names, each sentence with a test of its own. */
public final class TermsBoundariesTest extends Bench {
    public static void main(String[] args) {
        answers();
        corners();
        wheels();
        rolls();
        edges();
        seenAndSheets();
        finish();
    }

    // ---- answers

    private static void answers() {
        sentence("Answers", "BAD -1 (a number is not as told, there is no such CORNER, WHEEL, IMAGE, SHEET)",
            TermsBoundariesTest::thereIsNoSuch);
        sentence("Answers", "STATE -2 (as told)", () -> {
            due("STATE", WheelAreas.STATE, -2);
            refused(SOME, -2, "back", 1);
            refused(NEW, -2, "drift", 1, 1, 0);
        });
        sentence("Answers", "FULL -3", () -> {
            due("FULL", WheelAreas.FULL, -3);
            refused(ALL, -3, "feed", 32);
            refused(ALL, -3, "put", 0, 1);
            refused(ALL, -3, "add", 0, 0);
            refused(ALL, -3, "see", 0, 0, ZERO);
        });
        sentence("Answers", "NONE -4 (there is none)", () -> {
            due("NONE", WheelAreas.NONE, -4);
            refused(NEW, -4, "rule", 4);
            refused(NEW, -4, "runs", 1, 2);
            refused(NEW, -4, "swap", 0);
            refused(NEW, -4, "out", 0);
            refused(NEW, -4, "count", 3);
            refused(SOME, -4, "when", 0, MOST_TOLD);
            refused(SOME, -4, "ask", 0, 0);
        });
        sentence("Answers", "the first that fits", TermsBoundariesTest::theFirstThatFits);
        sentence("Answers", "what is refused changes nothing (but THE TAPE, as told)", TermsBoundariesTest::whatIsRefused);
        sentence("Answers", "Fractions are in lowest terms, the denominator above 0 (0 is 0 by 1)", TermsBoundariesTest::fractions);
    }

    private static void thereIsNoSuch() {
        due("BAD", WheelAreas.BAD, -1);
        for (int none : new int[] {-1, 0, 9, 10, MIN, MAX}) {
            dueOf(NEW, BAD, "corner", none, 0);
            dueOf(NEW, BAD, "shift", none, 0, 0);
            dueOf(NEW, BAD, "place", none, 0);
        }
        for (int none : new int[] {-1, 0, 3, 4, MIN, MAX}) {
            dueOf(NEW, BAD, "wheel", none, 0);
            dueOf(NEW, BAD, "alter", none, 0, 0);
            dueOf(NEW, BAD, "zero", none);
            dueOf(NEW, BAD, "ahead", none, 0);
            dueOf(NEW, BAD, "when", none, ZERO);
            for (String name : new String[] {"best", "step", "kind", "ask"}) {
                dueOf(NEW, BAD, name, none, 0);
            }
            dueOf(NEW, BAD, "luck", 0, none, ZERO, 0, 0);
            dueOf(NEW, BAD, "mean", 0, none, 0, 0);
            dueOf(NEW, BAD, "see", 0, none, ZERO);
            dueOf(NEW, BAD, "kinds", none);
            dueOf(NEW, BAD, "steps", none);
        }
        for (int none : new int[] {-1, 2, MIN, MAX}) {
            dueOf(ALL, BAD, "keep", none);
            dueOf(ALL, BAD, "back", none);
        }
        for (int none : new int[] {-1, 4, MIN, MAX}) {
            dueOf(ALL, BAD, "sheet", none, 0, 0);
            dueOf(ALL, BAD, "lay", none, 0, 0);
            dueOf(ALL, BAD, "read", none, 0, 0, 0);
        }
    }

    private static void theFirstThatFits() {
        refused(ALL, BAD, "feed", 128);
        refused(ALL, BAD, "feed", -1);
        refused(ALL, BAD, "put", 4, 1);
        refused(ALL, BAD, "put", 0, 10);
        refused(ALL, BAD, "add", 21, 0);
        refused(ALL, BAD, "add", 0, -1);
        refused(ALL, BAD, "see", 41, 0, ZERO);
        refused(ALL, BAD, "see", 0, 4, ZERO);
        refused(ALL, BAD, "see", 0, 0, MOST_TOLD + 1);
        Deed late = x -> traceAll(x, 9999);
        refused(late, BAD, "trace", 101);
        refused(late, BAD, "trace", -1);
        refused(NEW, BAD, "runs", 201, 2);
        refused(NEW, BAD, "runs", 0, 3);
        refused(NEW, BAD, "swap", 2);
        refused(NEW, BAD, "out", 2);
        refused(NEW, BAD, "drift", 1, 0, 0);
        refused(NEW, BAD, "drift", 1, 201, 0);
        refused(NEW, BAD, "drift", 1, 1, 2);
        refused(NEW, BAD, "back", 2);
        refused(SOME, BAD, "ask", 0, 2);
        refused(SOME, BAD, "when", 0, MOST_TOLD + 1);
        refused(SOME, BAD, "sheet", 4, 0, -1);
        refused(SOME, BAD, "sheet", 0, 3, -1);
        refused(SOME, BAD, "lay", 4, -1, 0);
        refused(SOME, BAD, "read", 3, 3, 0, 1);
        refused(SOME, BAD, "read", 3, 0, 0, 21);
        refused(SOME, -11, "lay", 3, -1, 0);
    }

    private static void whatIsRefused() {
        // FULL does not trace the edges that there still is room for.
        Deed late = then(told(WHEELS + SQUARE), x -> traceAll(x, 9990));
        refused(late, FULL, "trace", 10);
        refused(late, FULL, "trace", 100);
        // A read that is refused leaves the corners that were good ahead of the one that is not.
        refused(x -> layAll(x, 1, 1, 6, 1, 2, 3, 4, 5, 21), -22, "read", 1, 1, 0, 3);
        // A text that is refused takes the tape alone.
        Deed some = then(SOME, x -> x.end(0));
        for (String text : new String[] {"!", "at", "at 1 21;", "pole 1 1;pole", "free 1;".repeat(4) + "free"}) {
            WheelAreas x = made(some);
            feedAll(x, text);
            asRefused(text, x.text());
            due("bytes behind " + text, x.count(2), 0);
            same("now behind " + text, withoutFault(x), withoutFault(made(some)));
            due("back behind " + text, x.back(0), 3);
            due("seen behind " + text, x.forget(0), 2);
        }
    }

    private static void asRefused(String text, int answer) {
        due("text of " + text + " is refused", answer <= -10 ? 1 : 0, 1);
    }

    private static String withoutFault(WheelAreas x) {
        return now(x).replaceFirst("faults [0-9]", "faults ?");
    }

    private static void fractions() {
        WheelAreas x = made(told(WHEELS + SQUARE));
        // 0 by 1, 1 by 1: whatever ten times ten there were.
        for (int n = 0; n <= 8; n++) {
            due("luck of too much", x.luck(3, 0, MOST_TOLD, n, 0), 0);
            due("luck of too much", x.luck(3, 0, MOST_TOLD, n, 1), 1);
            due("luck of little", x.luck(3, 0, LEAST_TOLD, n, 0), 1);
            due("luck of little", x.luck(3, 0, LEAST_TOLD, n, 1), 1);
            due("mean of none", x.mean(10, 0, n, 0), 0);
            due("mean of none", x.mean(10, 0, n, 1), 1);
        }
        int[] above = {1, 9, 4, 7, 3, 1, 2, 3, 1, 1, 0};
        int[] below = {1, 10, 5, 10, 5, 2, 5, 10, 5, 10, 1};
        for (int v = 0; v <= 10; v++) {
            due("luck by " + v, x.luck(v, 0, ZERO + 20, 1, 0), above[v]);
            due("luck by " + v, x.luck(v, 0, ZERO + 20, 1, 1), below[v]);
        }
        // All of 8 edges, 400, by one out of ten each; 1 out of 10 ^ 8.
        due("luck of all", x.luck(9, 0, ZERO + 400, 8, 0), 1);
        due("luck of all", x.luck(9, 0, ZERO + 400, 8, 1), 100000000);
        // 18 by one out of ten: 9 by 5.
        due("mean of 18", x.mean(9, 1, 1, 0), 9);
        due("mean of 18", x.mean(9, 1, 1, 1), 5);
    }

    // ---- corners, the pole

    private static void corners() {
        sentence("1", "CORNERS 0 on (10 at most)", () -> {
            WheelAreas x = new WheelAreas();
            for (int n = 1; n <= 10; n++) {
                due("no corner " + (n - 1), x.corner(n - 1, 0), BAD);
                due("add", x.add(n, n), n);
                due("corner " + (n - 1), x.corner(n - 1, 0), n);
            }
            due("the 11th", x.add(11, 11), FULL);
            due("corner 10", x.corner(10, 0), BAD);
            due("corners", x.rule(0), 10);
        });
        sentence("1", "each AT X, Y (0 to 20 each)", () -> {
            for (int at = 0; at <= 1; at++) {
                bounds(SOME, at, 0, 20, "add", 5, 5);
                bounds(SOME, at + 1, 0, 20, "shift", 0, 5, 5);
            }
        });
        sentence("1", "EDGE i goes from CORNER i to the one behind it (from the last one to the first one)", () -> {
            WheelAreas x = made(told("at 1 2;"));
            due("the only edge", x.corner(0, 2), 10000);
            x.add(5, 3);
            due("edge 0", x.corner(0, 2), 10000 + 3 - 10);
            due("edge 1, the last", x.corner(1, 2), 10000 + 10 - 3);
            x.add(4, 7);
            due("edge 1, the last no more", x.corner(1, 2), 10000 + 35 - 12);
            due("edge 2, the last", x.corner(2, 2), 10000 + 8 - 7);
            for (int i = 3; i < 10; i++) {
                x.add(i, 20);
            }
            due("edge 2, the last no more", x.corner(2, 2), 10000 + 80 - 21);
            due("edge 9, the last of ten", x.corner(9, 2), 10000 + 18 - 20);
            x.drop(2);
            due("edge 1, the last again", x.corner(1, 2), 10000 + 10 - 3);
        });
        sentence("1", "THE POLE is AT X, Y (0 to 20 each; 0, 0 at first)", () -> {
            due("X at first", new WheelAreas().rule(5), 0);
            due("Y at first", new WheelAreas().rule(6), 0);
            bounds(SOME, 0, 0, 20, "pole", 5, 5);
            bounds(SOME, 1, 0, 20, "pole", 5, 5);
        });
        sentence("1", "AREA: SWEEPS of all EDGES, summed (it may be below 0)", () -> {
            due("no corners", new WheelAreas().rule(3), 100000);
            due("one corner", made(told("at 20 20;pole 0 20;")).rule(3), 100000);
            due("two corners", made(told("at 20 20;at 0 5;pole 20 0;")).rule(3), 100000);
            String round = "at 0 0;at 20 0;at 20 20;at 0 20;";
            String back = "at 0 20;at 20 20;at 20 0;at 0 0;";
            // Twice round the whole; the pole changes nothing.
            for (String pole : new String[] {"", "pole 20 20;", "pole 7 13;", "pole 20 0;"}) {
                due("round" + pole, made(told(round + round + pole)).rule(3), 101600);
                due("back" + pole, made(told(back + back + pole)).rule(3), 98400);
            }
        });
    }

    // ---- wheels

    private static void wheels() {
        sentence("1", "WHEELS 0 on (4 at most)", () -> {
            WheelAreas x = new WheelAreas();
            for (int n = 1; n <= 4; n++) {
                due("no wheel " + (n - 1), x.wheel(n - 1, 1), BAD);
                due("put", x.put(n - 1, n), n);
                due("wheel " + (n - 1), x.wheel(n - 1, 1), n);
            }
            due("the 5th", x.put(0, 5), FULL);
            due("wheel 4", x.wheel(4, 1), BAD);
            due("wheels", x.rule(1), 4);
        });
        sentence("1", "each of a KIND (0 plain, 1 coarse, 2 stick, 3 free)", () -> {
            bounds(SOME, 0, 0, 3, "put", 1, 5);
            bounds(SOME, 2, 0, 3, "alter", 0, 0, 1);
            WheelAreas x = made(told("free 1;stick 1;coarse 1;plain 1;"));
            for (int w = 0; w < 4; w++) {
                due("kind", x.wheel(w, 0), 3 - w);
            }
        });
        sentence("1", "with a STEP (1 to 9)", () -> {
            bounds(SOME, 1, 1, 9, "put", 1, 5);
            bounds(SOME, 2, 1, 9, "alter", 0, 1, 5);
        });
        sentence("1", "that READS so much (0 at first)", () -> {
            due("told", made(told("coarse 9;")).wheel(0, 2), ZERO);
            WheelAreas x = made(told(WHEELS + SQUARE));
            x.trace(4);
            x.cut(0);
            for (int w = 0; w < 4; w++) {
                x.put(w, 1);
                due("put where another was", x.wheel(w, 2), ZERO);
            }
        });
        sentence("1", "TRACED: how many EDGES were (0 at first)", () -> {
            due("new", new WheelAreas().rule(2), 0);
            WheelAreas x = made(told(SQUARE));
            due("told", x.rule(2), 0);
            x.trace(1);
            due("one", x.rule(2), 1);
            told(SQUARE).on(x);
            due("told anew", x.rule(2), 0);
        });
    }

    /** Two corners whose edges sweep s and less s, about the pole 0, 0. */
    private static WheelAreas sweeping(int s, int kind, int step) {
        WheelAreas x = made(told("at 1 0;at 0 " + s + ";"));
        x.put(kind, step);
        due("sweep", x.corner(0, 2), 10000 + s);
        due("sweep", x.corner(1, 2), 10000 - s);
        return x;
    }

    private interface Rolled {
        int by(int s, int step);
    }

    private static void rollsAre(int kind, Rolled ahead, Rolled backwards) {
        for (int step = 1; step <= 9; step++) {
            for (int s = 0; s <= 20; s++) {
                WheelAreas x = sweeping(s, kind, step);
                String what = "kind " + kind + ", step " + step + ", sweep ";
                x.trace(1);
                due(what + s, x.wheel(0, 2) - ZERO, ahead.by(s, step));
                x.zero(0);
                x.trace(1);
                due(what + -s, x.wheel(0, 2) - ZERO, backwards.by(s, step));
            }
        }
    }

    private static void rolls() {
        sentence("1", "plain the SWEEP", () -> rollsAre(0, (s, step) -> s, (s, step) -> -s));
        sentence("1", "coarse as a plain one, but so many whole STEPS of it alone (towards 0)", () ->
            rollsAre(1, (s, step) -> s - s % step, (s, step) -> s % step - s));
        sentence("1", "stick as a plain one, but nothing, if that is less than STEP without sign", () ->
            rollsAre(2, (s, step) -> s >= step ? s : 0, (s, step) -> s >= step ? -s : 0));
        sentence("1", "free as a stick one, but nothing, if that is below 0", () ->
            rollsAre(3, (s, step) -> s >= step ? s : 0, (s, step) -> 0));
        sentence("1", "plain so much; coarse as a plain one, by STEP (towards 0); stick as a plain one; free twice as much", () -> {
            for (int s = 0; s <= 20; s++) {
                WheelAreas x = sweeping(s, 0, 1);
                x.trace(1);
                showsOf(x, s);
                x.zero(0);
                x.trace(1);
                showsOf(x, -s);
            }
        });
        sentence("2", "ERROR of a WHEEL: how far that which it ROLLS by all EDGES, once each, summed, is from AREA, without sign", () -> {
            due("no corners", made(told(WHEELS)).wheel(3, 4), 0);
            // Sweeps 20 and -20: a free one rolls 20 of 0; the other way round likewise.
            due("too much", sweeping(20, 3, 9).wheel(0, 4), 20);
            due("too little", made(told("free 4;at 0 10;at 10 10;at 10 0;at 0 0;pole 3 2;")).wheel(0, 4), 200);
            due("of a coarse one below 0", made(told("coarse 9;at 0 10;at 10 10;at 10 0;at 0 0;pole 3 2;")).wheel(0, 4), 20);
            WheelAreas x = made(told("coarse 9;" + SQUARE));
            for (int n = 0; n < 6; n++) {
                due("once each, whatever was traced", x.wheel(0, 4), 20);
                x.trace(1);
            }
        });
    }

    /** The wheel reads so much by any kind and step: alter() leaves what it reads. */
    private static void showsOf(WheelAreas x, int reads) {
        for (int step = 1; step <= 9; step++) {
            int size = Math.abs(reads) / step;
            int[] shows = {reads, reads < 0 ? -size : size, reads, reads + reads};
            x.alter(0, 1, step);
            for (int kind = 0; kind <= 3; kind++) {
                x.alter(0, 0, kind);
                due("shows of " + reads + " by " + kind + ", " + step, x.wheel(0, 3) - ZERO, shows[kind]);
            }
        }
        x.alter(0, 0, 0);
    }

    // ---- edges

    private static void edges() {
        sentence("2", "The next EDGE to be TRACED is that whose number TRACED leaves by CORNERS", () -> {
            WheelAreas x = made(told("plain 1;" + SQUARE));
            int[] sweeps = {20, 70, 80, 30};
            int reads = 0;
            for (int n = 0; n < 13; n++) {
                due("next behind " + n, x.rule(4), n % 4);
                x.trace(1);
                reads += sweeps[n % 4];
                due("reads behind " + (n + 1), x.wheel(0, 2) - ZERO, reads);
            }
            x.drop(3);
            due("13 by 3", x.rule(4), 1);
            x.drop(1);
            due("13 by 1", x.rule(4), 0);
            x.add(1, 1);
            due("13 by 2", x.rule(4), 1);
            traceAll(x, 9986);
            due("9999 by 2", x.rule(4), 1);
            x.drop(0);
            for (int n = 0; n < 10; n++) {
                x.add(0, 0);
            }
            due("9999 by 10", x.rule(4), 9);
        });
        sentence("2", "(none, if there are none: nothing is READ then); TRACED is 1 more", () -> {
            WheelAreas x = made(told(WHEELS + SQUARE));
            x.trace(3);
            x.drop(0);
            due("next", x.rule(4), NONE);
            String wheels = now(x).replaceFirst(".*wheels", "");
            for (int n = 4; n <= 9; n++) {
                due("trace", x.trace(1), 0);
                due("traced", x.rule(2), n);
            }
            same("wheels", now(x).replaceFirst(".*wheels", ""), wheels);
        });
        sentence("2", "BY EDGES: as it would be from now on", () -> {
            for (int[] a : new int[][] {{0, 0}, {200, 0}, {200, 1}, {200, 2}}) {
                unchanged(SOME, "runs", a);
            }
            unchanged(SOME, "ahead", 1, 200);
            unchanged(SOME, "when", 1, ZERO + 2000);
            unchanged(SOME, "luck", 5, 0, ZERO, 8, 0);
            unchanged(SOME, "mean", 5, 0, 8, 0);
            unchanged(SOME, "drift", 5, 200, 0);
            WheelAreas x = made(then(told("plain 1;" + SQUARE), y -> traceAll(y, 9999)));
            due("no end to what would be", x.ahead(0, 200) - x.wheel(0, 2), 50 * 200);
            due("no end to what would be", x.runs(200, 0), 50 * 200);
        });
    }

    // ---- what is seen, sheets

    private static void seenAndSheets() {
        sentence("2", "SEEN (6): behind n EDGES (0 to 40) from now on a WHEEL READS so much", () -> {
            WheelAreas x = made(told("plain 1;" + SQUARE));
            due("n -1", x.see(-1, 0, ZERO), BAD);
            due("n 41", x.see(41, 0, ZERO), BAD);
            due("n 0", x.see(0, 0, ZERO), 1);
            due("so", x.kinds(0), 15);
            due("n 40", x.see(40, 0, ZERO + 2000), 2);
            due("so", x.kinds(0), 15);
            x.trace(4);
            due("from now on no more", x.kinds(0), 0);
            x.zero(0);
            due("from now on again", x.kinds(0), 15);
            for (int n = 3; n <= 6; n++) {
                due("see", x.see(1, 0, ZERO + 20), n);
            }
            due("the 7th", x.see(1, 0, ZERO + 20), FULL);
        });
        sentence("2", "SHEETS 0 to 3 are rows of BYTES (lane 0), SHORTS (1), INTS (2) with 0 to 40 CELLS, or nothing (at first)", () -> {
            for (int k = 0; k <= 3; k++) {
                dueOf(NEW, -11, "lay", k, 0, 0);
                for (int lane = 0; lane <= 2; lane++) {
                    int sheet = k;
                    int itsLane = lane;
                    dueOf(NEW, 1, "sheet", k, lane, 0);
                    dueOf(NEW, 1, "sheet", k, lane, 40);
                    refused(SOME, BAD, "sheet", k, lane, 41);
                    dueOf(x -> x.sheet(sheet, itsLane, 0), -12, "lay", k, 0, 0);
                    dueOf(x -> x.sheet(sheet, itsLane, 40), 1, "lay", k, 39, 0);
                    dueOf(x -> x.sheet(sheet, itsLane, 40), -12, "lay", k, 40, 0);
                }
            }
        });
        sentence("2", "1 NULL (nothing), 2 INDEX, 3 CAST (another lane), 4 SIZE (below 0)", () -> {
            for (int lane = 0; lane <= 2; lane++) {
                int itsLane = lane;
                Deed laid = x -> x.sheet(0, itsLane, 4);
                for (int taken = 0; taken <= 2; taken++) {
                    due("nothing", tornBy(NEW, taken, 0), 1);
                    due("nothing, at -1", tornBy(NEW, taken, -1), 1);
                    due("taken as " + taken, tornBy(laid, taken, 0), taken == lane ? 0 : 3);
                    due("taken as " + taken + " at -1", tornBy(laid, taken, -1), taken == lane ? 2 : 3);
                    due("taken as " + taken + " at 4", tornBy(laid, taken, 4), taken == lane ? 2 : 3);
                }
                dueOf(NEW, -14, "sheet", 0, lane, -1);
            }
        });
    }

    private static int tornBy(Deed state, int lane, int f) {
        WheelAreas x = made(state);
        x.read(0, lane, f, 1);
        return x.torn();
    }
}

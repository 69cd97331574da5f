/** The boundaries of THE TAPE, of the TOKENS and of the FAULTS of a text, and those of promises 2 to 5. */
public final class TextBoundariesTest extends Bench {
    /** 14 lines in 98 bytes: as many wheels and corners as there can be. */
    private static final String MOST = "free 1;".repeat(4) + "at 1 1;".repeat(10);

    public static void main(String[] args) {
        feeding();
        ending();
        tokens();
        faults();
        firstMet();
        telling();
        finish();
    }

    /** A text that is taken whole: how many lines. */
    private static WheelAreas takes(String text, int lines) {
        WheelAreas x = new WheelAreas();
        feedAll(x, text);
        due("text of " + text, x.text(), lines);
        due("fault of " + text, x.fault(), 0);
        due("bytes behind " + text, x.count(2), 0);
        return x;
    }

    private static void finds(String text, int fault, int place) {
        WheelAreas x = new WheelAreas();
        feedAll(x, text);
        due("text of " + text, x.text(), -10 - place);
        due("fault of " + text, x.fault(), fault);
        due("bytes behind " + text, x.count(2), 0);
        due("corners behind " + text, x.rule(0), 0);
        due("wheels behind " + text, x.rule(1), 0);
    }

    // ---- promises 2, 3

    private static void feeding() {
        sentence("2 feed", "A byte (0 to 127)", () -> bounds(SOME, 0, 0, 127, "feed", 32));
        sentence("2 feed", "comes behind THE TAPE: how many it has", () -> {
            WheelAreas x = new WheelAreas();
            for (int n = 1; n <= 160; n++) {
                due("feed", x.feed(n % 128), n);
                due("bytes", x.count(2), n);
            }
        });
        sentence("2 feed", "FULL: more than 160", () -> {
            refused(ALL, FULL, "feed", 0);
            refused(ALL, FULL, "feed", 127);
            WheelAreas x = made(ALL);
            due("end", x.end(159), 160);
            due("the 160th again", x.feed(32), 160);
            due("the 161st again", x.feed(32), FULL);
            x.text();
            due("the first of an empty one", x.feed(32), 1);
        });
        sentence("1", "THE TAPE has 160 bytes, places from 0", () -> {
            takes(" ".repeat(152) + "plain 1;", 1);
            takes("plain 1;" + " ".repeat(152), 1);
            finds("!" + " ".repeat(159), 1, 0);
            finds(" ".repeat(159) + "!", 1, 159);
            finds(" ".repeat(153) + "plain 1", 2, 160);
            finds(" ".repeat(158) + "at", 2, 160);
            finds(" ".repeat(157) + "123", 1, 157);
            takes(MOST + " ".repeat(53) + "pole 1 1;", 15);
        });
    }

    private static void ending() {
        sentence("3 end", "THE TAPE keeps its first n bytes: how many it had", () -> {
            dueOf(NEW, 0, "end", 0);
            dueOf(ALL, 160, "end", 160);
            dueOf(ALL, 160, "end", 159);
            dueOf(ALL, 160, "end", 0);
            dueOf(SOME, 15, "end", 15);
            unchanged(SOME, "end", 15);
            unchanged(ALL, "end", 160);
            WheelAreas x = made(SOME);
            due("end", x.end(8), 15);
            due("bytes", x.count(2), 8);
            due("the first line alone", x.text(), 1);
            due("corners", x.rule(0), 0);
            due("wheels", x.rule(1), 1);
            WheelAreas y = made(SOME);
            y.end(14);
            due("without the last byte", y.text(), -24);
            due("the end is met", y.fault(), 2);
        });
        sentence("3 end", "BAD", () -> {
            refused(NEW, BAD, "end", 1);
            refused(SOME, BAD, "end", 16);
            refused(ALL, BAD, "end", 161);
            tooLittle(NEW, 0, 0, "end", 0);
            tooLittle(SOME, 0, 0, "end", 0);
            tooMuch(ALL, 0, 160, "end", 0);
        });
    }

    // ---- tokens

    private static boolean isName(int c) {
        return c >= 'a' && c <= 'z';
    }

    private static boolean isFigure(int c) {
        return c >= '0' && c <= '9';
    }

    private static void tokens() {
        sentence("1", "TOKENS, each as long as may be, blanks (32) between", () -> {
            takes("plain 1;at 1 2;pole 3 4;", 3);
            takes("plain1;at1 2;pole3 4;", 3);
            takes("  plain  1  ;  at  1  2  ;  ", 2);
            takes(" ", 0);
            finds("atat 1 1;", 2, 0);
            finds("at 1 1;atat 1 1;", 2, 7);
            finds("pla in 1;", 2, 0);
            finds("at 11;", 2, 5);
            finds("at\t1 1;", 1, 2);
            finds("at 1\n1;", 1, 4);
            finds("at 1 1;\0", 1, 7);
        });
        sentence("1", "NAMES (a .. z), NUMBERS (1 or 2 figures), one ;", () -> {
            for (int c = 0; c <= 127; c++) {
                String sign = String.valueOf((char) c);
                if (c == 32) {
                    takes(sign, 0);
                } else {
                    boolean isToken = isName(c) || isFigure(c) || c == ';';
                    finds(sign, isToken ? 2 : 1, 0);
                    finds("plain 1;" + sign, isToken ? 2 : 1, 8);
                    finds("at 1" + sign, isToken ? 2 : 1, isFigure(c) ? 5 : 4);
                }
            }
            takes("plain 9;", 1);
            takes("plain 09;", 1);
            finds("plain 009;", 1, 6);
            takes("at 20 00;", 1);
            finds("at 020 1;", 1, 3);
            finds("at 1 000;", 1, 5);
            finds("plain 1;;", 2, 8);
        });
    }

    // ---- faults

    private static void faults() {
        sentence("1", "text: { line }", () -> {
            due("the empty text", new WheelAreas().text(), 0);
            takes(" ".repeat(160), 0);
            takes(MOST + "pole 1 1;", 15);
        });
        sentence("1", "1 no TOKEN, a NUMBER that is too long (its first byte)", () -> {
            finds("?", 1, 0);
            finds("at ?", 1, 3);
            finds("at 1?", 1, 4);
            finds("at 1 1?", 1, 6);
            finds("at 1 1;?", 1, 7);
            finds("Plain 1;", 1, 0);
            finds("plaiN 1;", 2, 0);
            finds("123", 1, 0);
            finds("plain 100;", 1, 6);
            finds("plain 001", 1, 6);
            finds("at 1 1;  " + "7".repeat(151), 1, 9);
            finds("at 1 1 123;", 1, 7);
        });
        sentence("1", "2 a TOKEN that can not stand there (a NAME that begins no line; or the end: the length)", () -> {
            String text = "coarse 1 ;at 2 3 ;  pole 4 5;";
            for (int length = 0; length <= text.length(); length++) {
                prefix(text.substring(0, length));
            }
            for (String name : new String[] {"a", "atx", "poles", "wheel", "plai", "plainn", "coars", "sticky", "fre", "z"}) {
                finds(name + " 1 1;", 2, 0);
                finds("at 1 1; " + name + " 1 1;", 2, 8);
            }
            for (String name : new String[] {"plain", "coarse", "stick", "free", "at", "pole"}) {
                for (int i = 0; i < name.length(); i++) {
                    finds(name.substring(0, i) + "y" + name.substring(i + 1) + " 1 1;", 2, 0);
                    finds(name.substring(0, i) + name.substring(i + 1) + " 1 1;", 2, 0);
                }
            }
            for (String name : new String[] {"plain", "coarse", "stick", "free"}) {
                finds(name + ";", 2, name.length());
                finds(name + " at", 2, name.length() + 1);
                finds(name + " 1 1;", 2, name.length() + 3);
                finds(name + " 1 at", 2, name.length() + 3);
            }
            for (String name : new String[] {"at", "pole"}) {
                finds(name + ";", 2, name.length());
                finds(name + " 1;", 2, name.length() + 2);
                finds(name + " 1 at", 2, name.length() + 3);
                finds(name + " 1 1 1;", 2, name.length() + 5);
                finds(name + " 1 1 at", 2, name.length() + 5);
            }
            finds("1", 2, 0);
            finds(";", 2, 0);
            finds("at 1 1", 2, 6);
            finds("at 1 1   ", 2, 9);
        });
        sentence("1", "3 a NUMBER out of its bounds", TextBoundariesTest::numbersOutOfBounds);
        sentence("1", "4 pole for the second time (its NAME)", () -> {
            takes("pole 1 1;", 1);
            finds("pole 1 1;pole 1 1;", 4, 9);
            finds("pole 1 1;pole", 4, 9);
            finds("pole 1 1;  pole ?", 4, 11);
            finds("pole 1 1;pole 99", 4, 9);
            finds("pole 1 1;" + MOST + "pole 1 1;", 4, 107);
            WheelAreas x = takes("pole 1 1;", 1);
            told("pole 2 2;pole 3 3;").on(x);
            due("refused", x.fault(), 4);
            due("that which was told stays", x.rule(5), 1);
            feedAll(x, "pole 2 2;");
            due("the first of the next text", x.text(), 1);
            due("X", x.rule(5), 2);
        });
        sentence("1", "5 the 5th WHEEL, the 11th CORNER (its NAME)", () -> {
            for (String name : new String[] {"plain", "coarse", "stick", "free"}) {
                finds("free 1;".repeat(4) + name + " 1;", 5, 28);
                finds(MOST + name, 5, 98);
                finds((name + " 1;").repeat(5), 5, 4 * (name.length() + 3));
            }
            takes("at 1 1;".repeat(10), 10);
            finds("at 1 1;".repeat(11), 5, 70);
            finds("at 1 1;".repeat(10) + "  at", 5, 72);
            finds(MOST + "at 1 1;", 5, 98);
            finds(MOST + "at 99", 5, 98);
            finds(MOST + "free ?", 5, 98);
            takes(MOST, 14);
            WheelAreas x = takes(MOST, 14);
            feedAll(x, MOST);
            due("as many in the next text", x.text(), 14);
        });
    }

    /** A prefix ends behind a whole line, in a NAME that is none yet, or at the end. */
    private static void prefix(String text) {
        String rest = text.substring(text.lastIndexOf(';') + 1).trim();
        int lines = (int) text.chars().filter(c -> c == ';').count();
        boolean isCut = rest.matches("[a-z]+") && !rest.matches("coarse|at|pole");
        if (rest.isEmpty()) {
            takes(text, lines);
        } else {
            finds(text, 2, isCut ? text.length() - rest.length() : text.length());
        }
    }

    private static void numbersOutOfBounds() {
        for (String name : new String[] {"plain", "coarse", "stick", "free"}) {
            int at = name.length() + 1;
            for (int n = 0; n <= 99; n++) {
                if (n >= 1 && n <= 9) {
                    due("step", takes(name + " " + n + ";", 1).wheel(0, 1), n);
                    due("step", takes(name + " 0" + n + ";", 1).wheel(0, 1), n);
                } else {
                    finds(name + " " + n + ";", 3, at);
                }
            }
            finds(name + " 00;", 3, at);
        }
        for (int n = 0; n <= 99; n++) {
            if (n <= 20) {
                due("X", takes("at " + n + " 1;", 1).corner(0, 0), n);
                due("Y", takes("at 1 " + n + ";", 1).corner(0, 1), n);
                due("X of the pole", takes("pole " + n + " 1;", 1).rule(5), n);
                due("Y of the pole", takes("pole 1 " + n + ";", 1).rule(6), n);
            } else {
                finds("at " + n + " 1;", 3, 3);
                finds("at 1 " + n + ";", 3, 5);
                finds("pole " + n + " 1;", 3, 5);
                finds("pole 1 " + n + ";", 3, 7);
            }
        }
        finds("at 1 21", 3, 5);
        finds("plain 0", 3, 6);
    }

    private static void firstMet() {
        sentence("1", "the first met as it is read (a TOKEN is read when the one before has been taken)", () -> {
            finds("at 21 ?", 3, 3);
            finds("at 21 123;", 3, 3);
            finds("at 21 at", 3, 3);
            finds("at 123 21;", 1, 3);
            finds("at at 21;", 2, 3);
            finds("at 21", 3, 3);
            finds("plain 0?", 3, 6);
            finds("plain 10?", 3, 6);
            finds("wheel ?", 2, 0);
            finds("? wheel", 1, 0);
            finds("pole 1 1;pole?", 4, 9);
            finds("pole 1 1?pole 1 1;", 1, 8);
            finds(MOST + "at?", 5, 98);
            finds(MOST + "?at", 1, 98);
            finds(MOST + "wheel", 2, 98);
            finds("free 1;".repeat(4) + "at 21 1;free 1;", 3, 31);
            finds("free 1;".repeat(4) + "free 1;at 21 1;", 5, 28);
            finds("pole 1 1;at 1 1;pole 1 1;?", 4, 16);
        });
    }

    // ---- promises 4, 5

    private static void telling() {
        sentence("1", "A text that is taken tells all, in place of what there was; nothing is SEEN; IMAGES are gone", () -> {
            for (String text : new String[] {"", " ", "free 3;at 5 6;at 7 8;", "pole 20 20;"}) {
                WheelAreas x = made(ALL);
                x.end(0);
                feedAll(x, text);
                x.text();
                WheelAreas y = made(told(text));
                String sheets = "counts 0 0 0 40";
                same("behind " + text, now(x), now(y).replace("counts 0 0 0 -4", sheets));
                due("back(0)", x.back(0), STATE);
                due("back(1)", x.back(1), STATE);
                due("seen", x.forget(0), 0);
                due("keep(0)", x.keep(0), 0);
            }
        });
        sentence("4 text", "THE TAPE (empty then) tells all: how many lines", () -> {
            dueOf(NEW, 0, "text");
            dueOf(SOME, 2, "text");
            dueOf(ALL, 2, "text");
            WheelAreas x = made(ALL);
            x.text();
            due("bytes", x.count(2), 0);
            due("wheels", x.rule(1), 1);
            due("an empty text", x.text(), 0);
            due("wheels", x.rule(1), 0);
        });
        sentence("4 text", "-10 less the place of its FAULT: that which was told stays", () -> {
            for (Deed state : new Deed[] {NEW, SOME, ALL}) {
                Deed before = then(state, x -> x.end(0));
                WheelAreas x = made(before);
                feedAll(x, "free 2;at 1 1;pole 1 1;at 1 21;");
                due("text", x.text(), -10 - 28);
                same("behind it", now(x).replaceFirst("faults [0-9]", ""), now(made(before)).replaceFirst("faults [0-9]", ""));
                due("bytes", x.count(2), 0);
                due("seen", x.forget(0), made(before).forget(0));
                due("back(0)", x.back(0), made(before).back(0));
                due("back(1)", x.back(1), made(before).back(1));
            }
        });
        sentence("5 fault", "The FAULT of the latest text(); 0", () -> {
            WheelAreas x = new WheelAreas();
            due("no text yet", x.fault(), 0);
            String[] texts = {"?", "at", "at 21 1;", "pole 1 1;pole", MOST + "at"};
            for (int fault = 1; fault <= 5; fault++) {
                feedAll(x, texts[fault - 1]);
                due("ahead of the text", x.fault(), fault - 1);
                x.text();
                due("behind the text", x.fault(), fault);
                due("asked again", x.fault(), fault);
            }
            x.feed(200);
            x.back(0);
            x.read(0, 0, 0, 1);
            due("other refusals are none of its", x.fault(), 5);
            x.text();
            due("a text that was taken", x.fault(), 0);
        });
    }
}

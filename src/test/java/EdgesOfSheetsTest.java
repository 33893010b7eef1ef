/** The edges that part 3 of "Terms" names of spots and sheets, and promises 37 to 43. */
public final class EdgesOfSheetsTest {
    public static void main(String[] args) {
        spots();
        sheets();
        bits();
        hold();
        as();
        asRefused();
        sheet();
        sheetRefused();
        write();
        writeRefused();
        copy();
        copyRefused();
        load();
        loadRefused();
        judge();
        judgeRefused();
        Check.finish();
    }

    /** What a number of a sheet is, if deep can be it: else -1. Only without waters and current. */
    private static boolean isFirst(CellarPump x, int s, int v) {
        x.set(2, v);
        return x.judge(s) != 1;
    }

    private static void spots() {
        Edges.says("SPOTS 0 to 9 hold a WATER or nothing (at first).");
        CellarPump x = new CellarPump();
        x.water(0, 1, 0);
        x.water(0, 1, 0);
        for (int spot = 0; spot < 10; spot++) {
            Edges.due("nothing at first", x.as(spot, 0), Check.MISSING);
        }
        x.hold(0, 1);
        x.hold(9, 0);
        Edges.due("the first", x.as(0, 0), 1);
        Edges.due("the last", x.as(9, 0), 0);
        Edges.due("another", x.as(1, 0), Check.MISSING);
    }

    private static void sheets() {
        Edges.says("SHEETS 0 to 3: rows of at most 40 numbers of 8, 16 or 32 bits (told with their sign: of 8 bits 255 is -1), or"
            + " MISSING (at first).");
        CellarPump x = new CellarPump();
        for (int s = 0; s < 4; s++) {
            Edges.due("missing at first", x.judge(s), Check.MISSING);
        }
        Edges.due("40", x.sheet(3, 8, 40), 40);
        Edges.due("the last of 40", x.write(3, 39, 1), 1);
        Edges.due("41", x.sheet(3, 8, 41), Check.BEYOND);
        Edges.due("none of 32 bits", x.sheet(0, 32, 0), 0);
        Edges.due("isn't missing", x.judge(0), 0);
    }

    /** Each number is written, and then held against deep and against the range of rain. */
    private static void bits() {
        Edges.says("of 8, 16 or 32 bits (told with their sign: of 8 bits 255 is -1)");
        int[][] cases = {{8, 127, 127}, {8, 128, -128}, {8, 255, -1}, {8, 256, 0}, {8, -129, 127}, {8, -256, 0},
            {16, 255, 255}, {16, 9999, 9999}, {16, 32768, -32768}, {16, 65535, -1}, {16, 65536, 0}, {16, 65541, 5},
            {16, -65535, 1}, {32, 65541, 65541}, {32, 9999, 9999}, {32, Edges.MIN, Edges.MIN}, {8, Edges.MAX, -1},
            {16, Edges.MIN, 0}, {32, -1, -1}};
        for (int[] c : cases) {
            CellarPump x = new CellarPump();
            x.current(false);
            x.sheet(0, c[0], 1);
            x.write(0, 0, c[1]);
            String what = c[1] + " of " + c[0] + " bits";
            for (int deep : new int[] {0, 1, 5, 127, 128, 255, 256, 9999}) {
                Edges.due(what + ", deep " + deep, isFirst(x, 0, deep) ? 1 : 0, deep == c[2] ? 1 : 0);
            }
            Edges.due(what + ", as rain", x.load(0), c[2] >= 0 && c[2] <= 99 ? 1 : 0);
        }
    }

    private static void hold() {
        Edges.says("A SPOT holds a WATER, or nothing (-1): 1. BEYOND.");
        Edges.range("spot", 0, 9, Edges::lived, (x, v) -> x.hold(v, 0));
        Edges.range("water", -1, 2, Edges::lived, (x, v) -> x.hold(3, v));
        Edges.refused("no water is there", Check.BEYOND, Edges::nothing, x -> x.hold(0, 0));
        CellarPump x = Edges.made(Edges::lived);
        Edges.due("a water", x.hold(0, 2), 1);
        Edges.due("another instead", x.hold(0, 0), 1);
        Edges.due("it holds that", x.as(0, 0), 0);
        Edges.due("the same in another", x.hold(1, 0), 1);
        Edges.due("nothing", x.hold(0, -1), 1);
        Edges.due("it holds nothing", x.as(0, 0), Check.MISSING);
        Edges.due("nothing instead of nothing", x.hold(0, -1), 1);
        Edges.due("the other holds it still", x.as(1, 0), 0);
        Edges.due("without any water", new CellarPump().hold(9, -1), 1);
    }

    private static void as() {
        Edges.says("What a SPOT holds as one of a kind (0 to 6): the number of the WATER.");
        CellarPump x = new CellarPump();
        for (int kind = 6; kind >= 0; kind--) {
            x.water(kind, 1, 0);
            x.hold(9 - kind, 6 - kind);
        }
        for (int kind = 0; kind < 7; kind++) {
            Edges.due("of its own kind", x.as(9 - kind, kind), 6 - kind);
            Edges.due("of the kind above all", x.as(9 - kind, 0), 6 - kind);
        }
        Edges.due("two kinds above", x.as(3, 1), 0);
    }

    private static void asRefused() {
        Edges.says("the number of the WATER. BEYOND. MISSING: it holds nothing. KIND: it isn't of that kind, nor of one under"
            + " it.");
        for (int v : new int[] {-1, 10, Edges.MIN, Edges.MAX}) {
            Edges.refused("spot " + v, Check.BEYOND, Edges::lived, x -> x.as(v, 0));
        }
        for (int v : new int[] {-1, 7, Edges.MIN, Edges.MAX}) {
            Edges.refused("kind " + v, Check.BEYOND, Edges::lived, x -> x.as(3, v));
            Edges.refused("kind " + v + ", and it holds nothing", Check.BEYOND, Edges::lived, x -> x.as(0, v));
        }
        for (int kind = 0; kind < 7; kind++) {
            int asked = kind;
            Edges.refused("it holds nothing", Check.MISSING, Edges::lived, x -> x.as(0, asked));
        }
        // Spot 3 holds one of the ground.
        for (int kind : new int[] {2, 3, 4, 5, 6}) {
            Edges.refused("a ground's one as " + kind, Check.KIND, Edges::lived, x -> x.as(3, kind));
        }
        Edges.refused("a stepped one as a backed one", Check.KIND, x -> {
            x.water(2, 1, 0);
            x.hold(0, 0);
        }, x -> x.as(0, 3));
    }

    private static void sheet() {
        Edges.says("A sheet has n numbers, all 0, of 8, 16 or 32 bits; bits 0: it is MISSING: n (0 if it is MISSING).");
        CellarPump x = new CellarPump();
        x.current(false);
        for (int bits : new int[] {8, 16, 32}) {
            Edges.due("40", x.sheet(0, bits, 40), 40);
            Edges.due("all 0", x.judge(0), 0);
            x.write(0, 0, 5);
            x.write(0, 39, 5);
            Edges.due("fewer", x.sheet(0, bits, 1), 1);
            Edges.due("0 again", x.judge(0), 0);
            Edges.due("the others are gone", x.write(0, 1, 1), Check.BEYOND);
            Edges.due("40 again", x.sheet(0, bits, 40), 40);
            Edges.due("all 0 again", x.judge(0), 0);
            Edges.due("none", x.sheet(0, bits, 0), 0);
            Edges.due("none, but not missing", x.load(0), 0);
        }
        x.sheet(0, 8, 3);
        Edges.due("missing", x.sheet(0, 0, 40), 0);
        Edges.due("it is", x.load(0), Check.MISSING);
        Edges.due("missing still", x.sheet(0, 0, 0), 0);
        Edges.due("it is", x.load(0), Check.MISSING);
        Edges.due("others stay", x.sheet(1, 8, 2), 2);
        x.sheet(0, 0, 0);
        Edges.due("others stay", x.judge(1), 0);
    }

    private static void sheetRefused() {
        Edges.says("BEYOND: no such sheet, other bits. SIZE: n is below 0 (also with bits 0). BEYOND: n is above 40 (also with"
            + " bits 0).");
        Edges.range("sheet", 0, 3, Edges::lived, (x, v) -> x.sheet(v, 8, 1));
        for (int bits : new int[] {-8, -1, 1, 7, 9, 15, 17, 24, 31, 33, 64, Edges.MIN, Edges.MAX}) {
            Edges.refused("bits " + bits, Check.BEYOND, Edges::lived, x -> x.sheet(0, bits, 1));
            Edges.refused("bits and n", Check.BEYOND, Edges::lived, x -> x.sheet(0, bits, -1));
        }
        Edges.refused("no such sheet, and n", Check.BEYOND, Edges::lived, x -> x.sheet(4, 8, -1));
        for (int bits : new int[] {0, 8, 16, 32}) {
            for (int n : new int[] {-1, Edges.MIN}) {
                Edges.refused("n " + n + " of " + bits, Check.SIZE, Edges::lived, x -> x.sheet(0, bits, n));
            }
            for (int n : new int[] {41, Edges.MAX}) {
                Edges.refused("n " + n + " of " + bits, Check.BEYOND, Edges::lived, x -> x.sheet(0, bits, n));
            }
        }
    }

    private static void write() {
        Edges.says("Number i of a sheet becomes v (its lowest bits): 1.");
        CellarPump x = new CellarPump();
        x.current(false);
        x.sheet(0, 8, 1);
        x.sheet(1, 16, 1);
        x.sheet(2, 32, 1);
        int v = 0x12340105;
        int[] deep = {5, 0x105, -1};
        for (int s = 0; s < 3; s++) {
            Edges.due("written", x.write(s, 0, v), 1);
            for (int d : new int[] {0, 5, 0x105}) {
                Edges.due("sheet " + s + ", deep " + d, isFirst(x, s, d) ? 1 : 0, d == deep[s] ? 1 : 0);
            }
        }
        x.sheet(3, 8, 3);
        x.set(2, 0);
        x.write(3, 1, 1);
        Edges.due("the second alone", x.judge(3), 2);
        x.write(3, 1, 0);
        Edges.due("0 again", x.judge(3), 0);
    }

    private static void writeRefused() {
        Edges.says("becomes v (its lowest bits): 1. BEYOND: no such sheet. MISSING. BEYOND: no such number.");
        for (int s : new int[] {-1, 4, Edges.MIN, Edges.MAX}) {
            Edges.refused("sheet " + s, Check.BEYOND, Edges::lived, x -> x.write(s, 0, 1));
        }
        Edges.refused("missing", Check.MISSING, Edges::lived, x -> x.write(3, 0, 1));
        Edges.refused("missing, and no number", Check.MISSING, Edges::lived, x -> x.write(3, -1, 1));
        Edges.range("i", 0, 2, Edges::lived, (x, v) -> x.write(0, v, 1));
        Edges.refused("none has no number", Check.BEYOND, Edges::lived, x -> x.write(2, 0, 1));
    }

    /** Sheet 0 has 1, 2, .. as deep will be. */
    private static CellarPump counting(int n) {
        CellarPump x = new CellarPump();
        x.current(false);
        x.water(0, 1, 0);
        x.sheet(0, 8, n);
        for (int i = 0; i < n; i++) {
            x.write(0, i, i + 1);
        }
        return x;
    }

    private static void copy() {
        Edges.says("n numbers of a sheet from one on come to another one from one on (as they all were): n.");
        CellarPump x = counting(40);
        x.sheet(1, 8, 40);
        Edges.due("all", x.copy(0, 0, 1, 0, 40), 40);
        Edges.due("they came", x.judge(1), 0);
        Edges.due("they stay", x.judge(0), 0);
        Edges.due("none", x.copy(1, 40, 0, 40, 0), 0);
        Edges.due("onto itself", x.copy(0, 0, 0, 0, 40), 40);
        Edges.due("the same", x.judge(0), 0);
        Edges.due("one further", x.copy(0, 0, 0, 1, 39), 39);
        Edges.due("1, 1, 2, ..: the second is not 2", x.judge(0), 2);
        x.copy(0, 1, 1, 0, 39);
        Edges.due("as they all were: 1 to 39", x.judge(1), 0);
        Edges.due("one back", x.copy(0, 1, 0, 0, 39), 39);
        x.copy(0, 0, 1, 0, 39);
        Edges.due("as they all were: 1 to 39", x.judge(1), 0);
        CellarPump y = counting(5);
        y.sheet(2, 8, 3);
        Edges.due("from the third, to the second", y.copy(0, 3, 2, 1, 2), 2);
        y.write(2, 0, 3);
        y.minutes(2);
        Edges.due("3, 4, 5", y.judge(2), 0);
    }

    private static void copyRefused() {
        Edges.says("BEYOND: no such sheet (either). MISSING: one is. KIND: they are not of as many bits. BEYOND: one has not so"
            + " many, or from, to or n is below 0 (with n 0, too).");
        for (int s : new int[] {-1, 4, Edges.MIN, Edges.MAX}) {
            Edges.refused("from sheet " + s, Check.BEYOND, Edges::lived, x -> x.copy(s, 0, 0, 0, 0));
            Edges.refused("to sheet " + s, Check.BEYOND, Edges::lived, x -> x.copy(0, 0, s, 0, 0));
            Edges.refused("to sheet " + s + ", the other is missing", Check.BEYOND, Edges::lived, x -> x.copy(3, 0, s, 0, 0));
        }
        Edges.refused("from missing", Check.MISSING, Edges::lived, x -> x.copy(3, 0, 0, 0, 0));
        Edges.refused("to missing", Check.MISSING, Edges::lived, x -> x.copy(0, 0, 3, 0, 0));
        Edges.refused("both missing", Check.MISSING, Edges::lived, x -> x.copy(3, 0, 3, 0, 0));
        Edges.refused("missing, and n below 0", Check.MISSING, Edges::lived, x -> x.copy(0, 0, 3, 0, -1));
        Edges.refused("8 to 16", Check.KIND, Edges::lived, x -> x.copy(0, 0, 1, 0, 1));
        Edges.refused("16 to 8, none", Check.KIND, Edges::lived, x -> x.copy(1, 0, 0, 0, 0));
        Edges.refused("16 to 8, and n below 0", Check.KIND, Edges::lived, x -> x.copy(1, 0, 0, 0, -1));
        // Sheet 0 has three numbers, sheet 2 none.
        int[][] wrong = {{0, 0, 0, 0, 4}, {0, 1, 0, 0, 3}, {0, 0, 0, 1, 3}, {0, 3, 0, 0, 1}, {0, 0, 0, 3, 1},
            {0, 4, 0, 0, 0}, {0, 0, 0, 4, 0}, {0, -1, 0, 0, 0}, {0, 0, 0, -1, 0}, {0, -1, 0, 0, 1}, {0, 0, 0, -1, 1},
            {0, 0, 0, 0, -1}, {0, 0, 2, 0, 1}, {2, 0, 0, 0, 1}, {2, 1, 0, 0, 0}, {0, 3, 0, 3, -1},
            {0, Edges.MAX, 0, 0, 1}, {0, 0, 0, Edges.MAX, 1}, {0, 1, 0, 1, Edges.MAX}, {0, Edges.MAX, 0, 0, Edges.MAX},
            {0, Edges.MIN, 0, 0, 0}, {0, 0, 0, Edges.MIN, 0}, {0, 0, 0, 0, Edges.MIN}, {0, Edges.MIN, 0, 0, Edges.MIN},
            {0, 0, 0, Edges.MAX, Edges.MAX}};
        for (int[] w : wrong) {
            String what = "from " + w[0] + " at " + w[1] + " to " + w[2] + " at " + w[3] + ", " + w[4];
            Edges.refused(what, Check.BEYOND, Edges::lived, x -> x.copy(w[0], w[1], w[2], w[3], w[4]));
        }
        CellarPump x = Edges.made(Edges::lived);
        Edges.due("none from end to end", x.copy(0, 3, 0, 3, 0), 0);
        Edges.due("none of none", x.copy(2, 0, 0, 0, 0), 0);
        Edges.due("all", x.copy(0, 0, 0, 0, 3), 3);
    }

    private static void load() {
        Edges.says("Numbers of a sheet, from its begin on, are RAIN of MINUTES that go by, one by one (RAIN stays the last one):"
            + " how many went. It ends at the first that isn't 0 to 99.");
        int[][] rows = {{}, {0}, {99}, {-1, 5}, {100, 5}, {5, 100, 6}, {7, 99, 0, 8, -1}, {98, 99, 100}, {1, 2, 3, 4}};
        int[] went = {0, 1, 1, 0, 0, 1, 4, 2, 4};
        for (int i = 0; i < rows.length; i++) {
            CellarPump x = new CellarPump();
            x.current(false);
            x.water(2, 1, 0);
            x.set(0, 44);
            x.sheet(1, 16, rows[i].length);
            int deep = 0;
            for (int k = 0; k < rows[i].length; k++) {
                x.write(1, k, rows[i][k]);
                deep += k < went[i] ? rows[i][k] : 0;
            }
            Edges.due("row " + i, x.load(1), went[i]);
            Edges.due("minutes of row " + i, x.now(8), went[i]);
            Edges.due("rain behind row " + i, x.now(0), went[i] == 0 ? 44 : rows[i][went[i] - 1]);
            Edges.due("deep behind row " + i, x.now(2), deep);
        }
        CellarPump x = new CellarPump();
        x.sheet(0, 32, 40);
        Edges.due("40", x.load(0), 40);
        Edges.due("and again", x.load(0), 40);
        Edges.due("the clock", x.now(8), 80);
    }

    private static void loadRefused() {
        Edges.says("It ends at the first that isn't 0 to 99. BEYOND: no such sheet. MISSING.");
        for (int s : new int[] {-1, 4, Edges.MIN, Edges.MAX}) {
            Edges.refused("sheet " + s, Check.BEYOND, Edges::lived, x -> x.load(s));
        }
        Edges.refused("missing", Check.MISSING, Edges::lived, x -> x.load(3));
    }

    private static void judge() {
        Edges.says("THE READER: numbers of a sheet are DEEP behind 1, 2, .. MINUTES ahead: 0 if all are; else 1 and the place"
            + " (from 0) of the first that isn't.");
        CellarPump x = counting(40);
        Edges.due("all 40", x.judge(0), 0);
        x.write(0, 39, 41);
        Edges.due("the last isn't", x.judge(0), 40);
        x.write(0, 20, 20);
        Edges.due("the first that isn't", x.judge(0), 21);
        x.write(0, 0, 0);
        Edges.due("the first of all isn't", x.judge(0), 1);
        x.sheet(1, 32, 0);
        Edges.due("none", x.judge(1), 0);
        x.sheet(1, 32, 1);
        x.write(1, 0, 1);
        Edges.due("deep behind one minute", x.judge(1), 0);
        x.write(1, 0, 0);
        Edges.due("not deep now", x.judge(1), 1);
        Edges.due("no minute went", x.now(8), 0);
        x.set(2, 9999);
        x.write(1, 0, 9999);
        Edges.due("9999 at most", x.judge(1), 0);
        Edges.due("no finding", x.status(-1), 0);
    }

    private static void judgeRefused() {
        Edges.says("else 1 and the place (from 0) of the first that isn't. BEYOND: no such sheet. MISSING.");
        for (int s : new int[] {-1, 4, Edges.MIN, Edges.MAX}) {
            Edges.refused("sheet " + s, Check.BEYOND, Edges::lived, x -> x.judge(s));
        }
        Edges.refused("missing", Check.MISSING, Edges::lived, x -> x.judge(3));
    }
}

/** Promises 37 to 43: spots and sheets. */
public final class SheetsTest {
    public static void main(String[] args) {
        hold();
        as();
        sheet();
        write();
        writeCuts();
        copyRefused();
        copy();
        copyOverItself();
        load();
        judge();
        Check.finish();
    }

    private static void hold() {
        CellarPump x = new CellarPump();
        Check.due("no water yet", x.hold(0, 0), Check.BEYOND);
        Check.due("nothing", x.hold(0, -1), 1);
        x.water(0, 1, 0);
        Check.due("a water", x.hold(9, 0), 1);
        Check.due("it holds it", x.as(9, 0), 0);
        Check.due("no such water", x.hold(9, 1), Check.BEYOND);
        Check.due("no such water", x.hold(9, -2), Check.BEYOND);
        Check.due("no such spot", x.hold(10, 0), Check.BEYOND);
        Check.due("no such spot", x.hold(-1, -1), Check.BEYOND);
        Check.due("it holds it still", x.as(9, 0), 0);
        Check.due("nothing again", x.hold(9, -1), 1);
        Check.due("it holds nothing", x.as(9, 0), Check.MISSING);
    }

    private static void as() {
        CellarPump x = new CellarPump();
        boolean[][] is = new boolean[7][7];
        int[][] of = {{0}, {1, 0}, {2, 0}, {3, 2, 0}, {4, 1, 0}, {5, 0}, {6, 4, 1, 0}};
        for (int kind = 0; kind < 7; kind++) {
            x.water(kind, 1, 0);
            x.hold(kind, kind);
            for (int above : of[kind]) {
                is[kind][above] = true;
            }
        }
        for (int kind = 0; kind < 7; kind++) {
            for (int asked = 0; asked < 7; asked++) {
                Check.due(kind + " as " + asked, x.as(kind, asked), is[kind][asked] ? kind : Check.KIND);
            }
        }
        Check.due("it holds nothing", x.as(7, 0), Check.MISSING);
        Check.due("BEYOND is asked first", x.as(7, 7), Check.BEYOND);
        Check.due("no such kind", x.as(0, -1), Check.BEYOND);
        Check.due("no such spot", x.as(10, 0), Check.BEYOND);
        Check.due("no such spot", x.as(-1, 0), Check.BEYOND);
    }

    private static void sheet() {
        CellarPump x = new CellarPump();
        Check.due("missing at first", x.judge(0), Check.MISSING);
        Check.due("40 of 8", x.sheet(0, 8, 40), 40);
        Check.due("0 of 16", x.sheet(1, 16, 0), 0);
        Check.due("that isn't missing", x.judge(1), 0);
        Check.due("of 32", x.sheet(3, 32, 1), 1);
        Check.due("no such sheet", x.sheet(4, 8, 1), Check.BEYOND);
        Check.due("no such sheet", x.sheet(-1, 8, -1), Check.BEYOND);
        Check.due("other bits", x.sheet(0, 1, 1), Check.BEYOND);
        Check.due("other bits", x.sheet(0, 64, -1), Check.BEYOND);
        Check.due("other bits", x.sheet(0, -8, 1), Check.BEYOND);
        Check.due("size", x.sheet(0, 8, -1), Check.SIZE);
        Check.due("size with bits 0", x.sheet(0, 0, Integer.MIN_VALUE), Check.SIZE);
        Check.due("above 40", x.sheet(0, 8, 41), Check.BEYOND);
        Check.due("above 40 with bits 0", x.sheet(0, 0, 41), Check.BEYOND);
        Check.due("it is there still", x.write(0, 39, 1), 1);
        Check.due("missing", x.sheet(0, 0, 40), 0);
        Check.due("missing", x.write(0, 0, 1), Check.MISSING);
        x.sheet(3, 32, 3);
        x.write(3, 2, 7);
        x.sheet(3, 32, 3);
        Check.due("all 0 again", x.judge(3), 0);
    }

    private static void write() {
        CellarPump x = new CellarPump();
        Check.due("no such sheet", x.write(4, 0, 1), Check.BEYOND);
        Check.due("no such sheet", x.write(-1, 0, 1), Check.BEYOND);
        Check.due("missing is asked ahead of the number", x.write(0, 99, 1), Check.MISSING);
        x.sheet(0, 8, 3);
        Check.due("no such number", x.write(0, 3, 1), Check.BEYOND);
        Check.due("no such number", x.write(0, -1, 1), Check.BEYOND);
        Check.due("the last", x.write(0, 2, 1), 1);
        Check.due("it is 1, and deep 0", x.judge(0), 3);
    }

    /** What a sheet holds is seen by judging it against the depth. */
    private static void writeCuts() {
        holds(8, 127, 127);
        holds(8, 128, -1);
        holds(8, 255, -1);
        holds(8, 256 + 99, 99);
        holds(8, -200, 56);
        holds(16, 300, 300);
        holds(16, 65536 + 9000, 9000);
        holds(16, 40000, -1);
        holds(32, 9999, 9999);
        holds(32, 65536 + 9000, -1);
        holds(32, -1, -1);
    }

    /** What -1 stands for is a number that deep never is. */
    private static void holds(int bits, int v, int deep) {
        CellarPump x = new CellarPump();
        x.current(false);
        x.sheet(2, bits, 1);
        x.write(2, 0, v);
        for (int d = 0; d <= 9999; d += deep < 0 ? 1111 : 9999) {
            x.set(2, deep < 0 ? d : deep);
            Check.due(v + " of " + bits + " bits", x.judge(2), deep < 0 ? 1 : 0);
        }
    }

    private static void copyRefused() {
        CellarPump x = new CellarPump();
        x.sheet(0, 8, 5);
        x.sheet(1, 16, 5);
        x.sheet(2, 8, 3);
        Check.due("no such sheet", x.copy(4, 0, 0, 0, 0), Check.BEYOND);
        Check.due("no such sheet", x.copy(3, 0, 4, 0, 0), Check.BEYOND);
        Check.due("missing", x.copy(3, -1, 0, 0, 0), Check.MISSING);
        Check.due("missing", x.copy(0, -1, 3, 0, 0), Check.MISSING);
        Check.due("kind", x.copy(0, -1, 1, 0, 0), Check.KIND);
        int[][] wrong = {{-1, 0, 1}, {0, -1, 1}, {0, 0, -1}, {0, 0, 4}, {3, 0, 3}, {0, 2, 2}, {6, 0, 0}, {0, 4, 0},
            {-1, 0, 0}, {0, -1, 0}, {Integer.MAX_VALUE, 0, 1}, {0, Integer.MAX_VALUE, 1}, {1, 1, Integer.MAX_VALUE}};
        for (int[] w : wrong) {
            Check.due("copy " + w[0] + " " + w[1] + " " + w[2], x.copy(0, w[0], 2, w[1], w[2]), Check.BEYOND);
        }
        Check.due("none, from the end to the end", x.copy(0, 5, 2, 3, 0), 0);
        Check.due("up to both ends", x.copy(0, 3, 2, 1, 2), 2);
    }

    private static CellarPump withSteps() {
        CellarPump x = new CellarPump();
        x.current(false);
        x.water(0, 1, 0);
        x.sheet(0, 8, 6);
        for (int i = 0; i < 6; i++) {
            x.write(0, i, i + 1);
        }
        return x;
    }

    private static void copy() {
        CellarPump x = withSteps();
        x.sheet(1, 8, 3);
        Check.due("as it is", x.judge(0), 0);
        Check.due("three", x.copy(0, 2, 1, 0, 3), 3);
        x.minutes(2);
        Check.due("3, 4, 5", x.judge(1), 0);
        x.write(0, 2, 9);
        Check.due("the copy is its own", x.judge(1), 0);
    }

    private static void copyOverItself() {
        CellarPump x = withSteps();
        Check.due("up", x.copy(0, 0, 0, 2, 4), 4);
        x.sheet(1, 8, 4);
        x.copy(0, 2, 1, 0, 4);
        Check.due("1, 2, 3, 4", x.judge(1), 0);
        CellarPump y = withSteps();
        Check.due("down", y.copy(0, 2, 0, 0, 4), 4);
        y.sheet(1, 8, 4);
        y.copy(0, 0, 1, 0, 4);
        y.minutes(2);
        Check.due("3, 4, 5, 6", y.judge(1), 0);
    }

    private static void load() {
        CellarPump x = new CellarPump();
        x.current(false);
        x.water(2, 1, 0);
        Check.due("no such sheet", x.load(4), Check.BEYOND);
        Check.due("no such sheet", x.load(-1), Check.BEYOND);
        Check.due("missing", x.load(0), Check.MISSING);
        x.sheet(0, 16, 0);
        x.set(0, 8);
        Check.due("none", x.load(0), 0);
        Check.due("rain stays", x.now(0), 8);
        x.sheet(0, 16, 5);
        int[] rain = {99, 0, 7, 100, 5};
        for (int i = 0; i < 5; i++) {
            x.write(0, i, rain[i]);
        }
        Check.due("three, up to 100", x.load(0), 3);
        Check.due("deep", x.now(2), 106);
        Check.due("rain stays the last", x.now(0), 7);
        Check.due("the clock", x.now(8), 3);
        x.write(0, 0, -1);
        Check.due("none", x.load(0), 0);
        Check.due("rain stays", x.now(0), 7);
        x.write(0, 0, 1);
        x.write(0, 3, 2);
        Check.due("all", x.load(0), 5);
        Check.due("deep", x.now(2), 106 + 1 + 0 + 7 + 2 + 5);
    }

    private static void judge() {
        CellarPump x = withSteps();
        Check.due("no such sheet", x.judge(4), Check.BEYOND);
        Check.due("no such sheet", x.judge(-1), Check.BEYOND);
        Check.due("missing", x.judge(1), Check.MISSING);
        Check.due("all are", x.judge(0), 0);
        x.write(0, 5, 7);
        Check.due("the last isn't", x.judge(0), 6);
        x.write(0, 2, 7);
        Check.due("the first that isn't", x.judge(0), 3);
        x.write(0, 0, 0);
        Check.due("the first", x.judge(0), 1);
        Check.due("nothing changed", x.now(8), 0);
    }
}

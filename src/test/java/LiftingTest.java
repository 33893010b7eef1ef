/** Promises 33 to 36: what to lift, what goes on the shelf, odds and draws. */
public final class LiftingTest {
    public static void main(String[] args) {
        rescueRefused();
        rescueLimits();
        rescueChooses();
        rescueOrder();
        rescueOrderOfThree();
        rescueLeavesOut();
        rescueLaterThan400();
        rescueAt400();
        shelf();
        shelfOfAll();
        seed();
        oddsDraw();
        oddsOfRain();
        oddsOfCurrent();
        oddsRefused();
        Check.finish();
    }

    /** Ten a minute, and no pump. */
    private static CellarPump tens() {
        CellarPump x = new CellarPump();
        x.current(false);
        x.water(0, 10, 0);
        return x;
    }

    private static void rescued(String what, CellarPump x, int set, int worth, int first) {
        Check.due(what + ": set", x.rescue(0), set);
        Check.due(what + ": worth", x.rescue(1), worth);
        Check.due(what + ": first", x.rescue(2), first);
    }

    private static void rescueRefused() {
        CellarPump x = tens();
        Check.due("what", x.rescue(3), Check.BEYOND);
        Check.due("what", x.rescue(-1), Check.BEYOND);
        rescued("no things", x, 0, 0, -1);
    }

    private static void rescueLimits() {
        CellarPump x = tens();
        x.thing(9, 3, 29);
        rescued("deeper than its height behind its last minute", x, 0, 0, -1);
        x.down(0, 30);
        rescued("as deep as its height", x, 1, 9, 0);
        x.lift(0);
        Check.due("so it is", x.thingOf(0, 4), 0);
    }

    private static void rescueChooses() {
        CellarPump x = tens();
        x.thing(10, 2, 25);
        x.thing(20, 3, 55);
        x.thing(10, 2, 35);
        rescued("30 with 0 and 1, or 1 and 2: the least set", x, 3, 30, 0);
        x.thing(31, 5, 50);
        rescued("one alone is worth more", x, 8, 31, 3);
    }

    private static void rescueOrder() {
        CellarPump x = tens();
        x.thing(10, 2, 200);
        x.thing(10, 3, 49);
        x.thing(10, 2, 90);
        rescued("1 can't wait for 0", x, 7, 30, 1);
        x.down(1, 50);
        rescued("it can now", x, 7, 30, 0);
        x.down(2, 60);
        rescued("but 2 then can't", x, 7, 30, 1);
    }

    /** 0 ahead of 2 makes 2 late, 1 ahead of both makes 0 late. */
    private static void rescueOrderOfThree() {
        CellarPump x = tens();
        x.thing(1, 5, 80);
        x.thing(1, 1, 900);
        x.thing(1, 3, 40);
        rescued("2, 0, 1", x, 7, 3, 2);
        x.down(0, 90);
        rescued("1, 2, 0", x, 7, 3, 1);
    }

    private static void rescueLeavesOut() {
        CellarPump x = tens();
        x.thing(10, 1, 0);
        x.thing(20, 1, 500);
        x.thing(30, 1, 500);
        x.lift(1);
        Check.due("0 is harmed", x.thingOf(0, 4), 1);
        x.down(0, 900);
        rescued("what is lifted, or harmed, is left out", x, 4, 30, 2);
        x.down(1, 500);
        rescued("what was put down isn't", x, 6, 50, 1);
    }

    private static void rescueLaterThan400() {
        CellarPump x = new CellarPump();
        for (int i = 0; i < 10; i++) {
            x.thing(5, 60, 0);
        }
        rescued("600 minutes, and never deep", x, 1023, 50, 0);
        x.water(5, 1, 399);
        x.current(false);
        rescued("deep behind the 400th: six are in time", x, 63, 30, 0);
        x.change(0, 2, 400);
        rescued("deep later", x, 1023, 50, 0);
    }

    private static void rescueAt400() {
        CellarPump x = new CellarPump();
        x.current(false);
        x.water(0, 1, 0);
        for (int i = 0; i < 7; i++) {
            x.thing(10 + i, i == 6 ? 39 : 60, 399);
        }
        rescued("all in 399 minutes", x, 127, 91, 0);
        x.thing(1, 1, 400);
        rescued("one more behind them", x, 255, 92, 0);
        x.down(7, 399);
        rescued("no more", x, 127, 91, 0);
    }

    private static void shelf() {
        CellarPump x = new CellarPump();
        Check.due("nothing there", x.shelf(600, 0), 0);
        x.thing(40, 5, 0);
        x.thing(90, 10, 0);
        x.thing(50, 5, 0);
        x.thing(40, 5, 0);
        Check.due("no room", x.shelf(4, 0), 0);
        Check.due("no room", x.shelf(4, 1), 0);
        Check.due("no room at all", x.shelf(0, 0), 0);
        Check.due("one", x.shelf(5, 0), 4);
        Check.due("two or one of 90: the least set", x.shelf(10, 0), 2);
        Check.due("90", x.shelf(10, 1), 90);
        Check.due("140", x.shelf(15, 0), 6);
        Check.due("140", x.shelf(15, 1), 140);
        Check.due("three", x.shelf(24, 0), 7);
        Check.due("all", x.shelf(25, 0), 15);
        Check.due("all", x.shelf(600, 1), 220);
        Check.due("below", x.shelf(-1, 0), Check.BEYOND);
        Check.due("above", x.shelf(601, 0), Check.BEYOND);
        Check.due("what", x.shelf(5, 2), Check.BEYOND);
        Check.due("what", x.shelf(5, -1), Check.BEYOND);
    }

    private static void shelfOfAll() {
        CellarPump y = new CellarPump();
        y.thing(5, 1, 0);
        y.thing(4, 1, 0);
        Check.due("the first alone", y.shelf(1, 0), 1);
        CellarPump x = tens();
        x.thing(5, 1, 0);
        x.thing(6, 1, 900);
        x.lift(1);
        Check.due("one is harmed", x.harm(), 5);
        Check.due("lifted and harmed ones too", x.shelf(2, 0), 3);
        for (int i = 0; i < 8; i++) {
            x.thing(9, 60, 0);
        }
        Check.due("ten", x.shelf(482, 0), 1023);
        Check.due("all but the last", x.shelf(481, 0), 1022);
    }

    private static void seed() {
        CellarPump x = new CellarPump();
        Check.due("1 at first", x.seed(-1000001), 1);
        Check.due("told by count", x.count(6), -1000001);
        Check.due("any int", x.seed(Integer.MIN_VALUE), -1000001);
        Check.due("any int", x.seed(Integer.MAX_VALUE), Integer.MIN_VALUE);
        Check.due("no findings", x.status(-1), 0);
    }

    private static int next(int z) {
        return z * 1103515245 + 12345;
    }

    private static void oddsDraw() {
        CellarPump x = new CellarPump();
        int z = -77;
        x.seed(z);
        x.odds(7, 3, 0);
        for (int i = 0; i < 14; i++) {
            z = next(z);
        }
        Check.due("two draws a night", x.count(6), z);
        Check.due("from there on", x.odds(1, 1, 0), 0);
        Check.due("two more", x.count(6), next(next(z)));
    }

    private static void oddsOfRain() {
        for (int seed = -5; seed < 6; seed++) {
            CellarPump x = new CellarPump();
            x.water(2, 1, 9);
            x.seed(seed);
            x.current(false);
            int z = seed;
            int due = 0;
            for (int i = 0; i < 20; i++) {
                z = next(z);
                int rain = (z >>> 8) % 40;
                z = next(z);
                due += 3 * (rain - 9) > 40 ? 1 : 0;
            }
            Check.due("nights of three minutes", x.odds(20, 3, 40), due);
            Check.due("the rain stays", x.now(0), 0);
            Check.due("no minute goes", x.now(8), 0);
        }
    }

    private static void oddsOfCurrent() {
        for (int seed = -5; seed < 6; seed++) {
            CellarPump x = new CellarPump();
            x.water(0, 60, 0);
            x.set(5, 60);
            x.seed(seed);
            int z = seed;
            int due = 0;
            for (int i = 0; i < 20; i++) {
                z = next(next(z));
                due += (z >>> 8) % 4 == 0 ? 1 : 0;
            }
            Check.due("nights without current", x.odds(20, 5, 0), due);
            x.current(false);
            Check.due("it is as now", x.odds(20, 5, 0), 20);
            Check.due("any minute counts once", x.odds(20, 5, 299), 20);
            Check.due("not more", x.odds(20, 5, 300), 0);
        }
    }

    private static void oddsRefused() {
        CellarPump x = new CellarPump();
        int[][] wrong = {{0, 1, 0}, {21, 1, 0}, {1, 0, 0}, {1, 201, 0}, {1, 1, -1}, {1, 1, 10000}};
        for (int[] w : wrong) {
            Check.due("odds " + w[0] + " " + w[1] + " " + w[2], x.odds(w[0], w[1], w[2]), Check.BEYOND);
        }
        Check.due("nothing was drawn", x.count(6), 1);
        Check.due("the edges", x.odds(20, 200, 9999), 0);
    }
}

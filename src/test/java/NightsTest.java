/** Promises 24 to 29: nights ahead. */
public final class NightsTest {
    public static void main(String[] args) {
        ahead();
        aheadRefused();
        aheadChangesNothing();
        under();
        reaches();
        bestOn();
        bestOnWithin();
        bestOnNone();
        bestOnManyStarts();
        trialsSeeTheBurst();
        leastMost();
        rateFor();
        rateForTwice();
        batteryFor();
        batteryForNone();
        batteryForOneThatRuns();
        Check.finish();
    }

    /** Five a minute; on 20, off 3, rate 10: deep is 5, 10, 15, 10, 5, 0 and so on. */
    private static CellarPump sixes() {
        CellarPump x = new CellarPump();
        x.water(0, 5, 0);
        x.set(4, 3);
        x.set(3, 20);
        x.set(5, 10);
        x.thing(7, 1, 12);
        x.thing(11, 1, 14);
        x.thing(50, 1, 15);
        return x;
    }

    private static void ahead() {
        CellarPump x = sixes();
        int[] deep = {0, 5, 10, 15, 10, 5, 0, 5, 10, 15, 10};
        for (int n = 0; n < deep.length; n++) {
            Check.due("deep behind " + n, x.ahead(n, 0), deep[n]);
            Check.due("greatest in " + n, x.ahead(n, 1), Math.min(15, n * 5));
            Check.due("starts in " + n, x.ahead(n, 2), (n + 2) / 6);
            Check.due("harm behind " + n, x.ahead(n, 3), n < 3 ? 0 : 18);
        }
        Check.due("400", x.ahead(400, 0), 10);
        x.minutes(4);
        Check.due("the greatest from now on", x.ahead(2, 1), 5);
        Check.due("starts from now on", x.ahead(6, 2), 1);
        Check.due("harm that is there", x.ahead(0, 3), 18);
        x.set(2, 9000);
        Check.due("without any minute", x.ahead(0, 1), 0);
        Check.due("deep as it is", x.ahead(0, 0), 9000);
    }

    private static void aheadRefused() {
        CellarPump x = sixes();
        Check.due("below", x.ahead(-1, 0), Check.BEYOND);
        Check.due("above", x.ahead(401, 0), Check.BEYOND);
        Check.due("what", x.ahead(1, 4), Check.BEYOND);
        Check.due("what", x.ahead(1, -1), Check.BEYOND);
    }

    private static void aheadChangesNothing() {
        CellarPump x = sixes();
        Check.sky(x, "rain 9;wait 50;flap sticks;current off;battery 9;wait 9");
        x.ahead(400, 0);
        x.under(0, 0);
        x.reaches(9999);
        x.bestOn(200, 9999);
        x.rateFor(200, 100);
        x.batteryFor(200, 100);
        x.worth(0, 9999, 0);
        x.rescue(0);
        x.judge(0);
        int[] due = {0, 100, 0, 20, 3, 10, 500, 0, 0, 0, 0, 0, 0, 0, 0, 1, 0};
        for (int what = 0; what < due.length; what++) {
            Check.due("as it was, " + what, x.now(what), due[what]);
        }
        Check.due("brought nothing", x.waterOf(0, 4), 0);
        Check.due("no harm", x.harm(), 0);
        Check.due("nothing built", x.count(4), 0);
        Check.due("z", x.count(6), 1);
    }

    private static void under() {
        CellarPump x = sixes();
        Check.sky(x, "wait 3;bail 9;wait 1");
        Check.sky(x, "bail 9;rain 3");
        Check.due("15 less 9 and 5", x.under(0, 0), 11);
        Check.due("greatest", x.under(0, 1), 15);
        Check.due("starts", x.under(0, 2), 0);
        Check.due("harm", x.under(0, 3), 18);
        x.set(2, 100);
        Check.due("bailed", x.under(1, 0), 91);
        Check.due("no minute", x.under(1, 1), 0);
        Check.due("one start", x.under(0, 2), 1);
        Check.due("no such sky", x.under(2, 0), Check.BEYOND);
        Check.due("no such sky", x.under(-1, 0), Check.BEYOND);
        Check.due("no such what", x.under(0, 4), Check.BEYOND);
        Check.due("no such what", x.under(0, -1), Check.BEYOND);
    }

    private static void reaches() {
        CellarPump x = sixes();
        Check.due("more than 0", x.reaches(0), 1);
        Check.due("more than 4", x.reaches(4), 1);
        Check.due("more than 5", x.reaches(5), 2);
        Check.due("more than 14", x.reaches(14), 3);
        Check.due("never more than 15", x.reaches(15), Check.NONE);
        Check.due("below", x.reaches(-1), Check.BEYOND);
        Check.due("above", x.reaches(10000), Check.BEYOND);
        CellarPump y = new CellarPump();
        y.current(false);
        y.water(0, 1, 0);
        Check.due("behind 400 minutes", y.reaches(399), 400);
        Check.due("not behind more", y.reaches(400), Check.NONE);
        y.set(2, 9999);
        Check.due("deep now doesn't count, but it stays", y.reaches(9998), 1);
        Check.due("never more than the most", y.reaches(9999), Check.NONE);
    }

    private static void bestOn() {
        CellarPump x = new CellarPump();
        x.water(0, 5, 0);
        x.set(5, 10);
        // Ten minutes bring 50: a mark of 51 or more is never met.
        Check.due("the least mark without a start", x.bestOn(10, 9999), 51);
        Check.due("one of them is deep enough", x.bestOn(10, 50), 51);
        // With 21 to 25 it starts in minute 4 and again in minute 8, with 26 in minute 5 alone.
        Check.due("48 of 50: it must start, once", x.bestOn(10, 48), 26);
        x.set(2, 9000);
        Check.due("one start with each: the least mark", x.bestOn(10, 9999), 11);
        x.set(3, 200);
        x.set(4, 199);
        Check.due("200 alone", x.bestOn(10, 9999), 200);
        x.set(3, 201);
        x.set(4, 200);
        Check.due("none above off", x.bestOn(10, 9999), Check.NONE);
        int[][] wrong = {{0, 0}, {201, 0}, {1, -1}, {1, 10000}};
        for (int[] w : wrong) {
            Check.due("bestOn " + w[0] + " " + w[1], x.bestOn(w[0], w[1]), Check.BEYOND);
        }
        Check.due("on stays", x.now(3), 201);
    }

    /** Each mark is tried by hand: set, look ahead, and take the first with the fewest starts. */
    private static void bestOnWithin() {
        for (int most = 20; most < 240; most += 17) {
            CellarPump x = sixes();
            x.water(4, 6, 0);
            x.set(0, 6);
            x.set(5, 17);
            int due = Check.NONE;
            int fewest = 999;
            for (int on = 4; on <= 200; on++) {
                CellarPump y = sixes();
                y.water(4, 6, 0);
                y.set(0, 6);
                y.set(5, 17);
                y.set(3, on);
                if (y.ahead(150, 1) <= most && y.ahead(150, 2) < fewest) {
                    due = on;
                    fewest = y.ahead(150, 2);
                }
            }
            Check.due("best mark for " + most, x.bestOn(150, most), due);
        }
    }

    private static void bestOnNone() {
        CellarPump x = new CellarPump();
        x.water(0, 99, 0);
        Check.due("none keeps it down", x.bestOn(200, 100), Check.NONE);
        Check.due("told once", x.status(3), 1);
    }

    /** 198 come and go each minute: a start in every one, also behind many others. */
    private static void bestOnManyStarts() {
        CellarPump x = new CellarPump();
        x.water(0, 99, 0);
        x.water(0, 99, 0);
        x.build(2);
        x.set(5, 99);
        x.set(2, 10);
        x.set(3, 200);
        x.set(4, 199);
        x.set(6, 999);
        Check.due("starts", x.ahead(200, 2), 200);
        Check.due("200 of them", x.bestOn(200, 9999), 200);
        x.minutes(200);
        x.minutes(100);
        Check.due("300 starts were", x.now(9), 300);
        Check.due("200 more of them", x.bestOn(200, 9999), 200);
        x.set(4, 20);
        x.set(2, 0);
        Check.due("starts from now on are counted", x.bestOn(1, 9999), 199);
    }

    private static void trialsSeeTheBurst() {
        CellarPump x = new CellarPump();
        x.water(5, 30, 5);
        x.minutes(2);
        Check.due("it bursts behind three", x.bestOn(4, 9999), 31);
        Check.due("not in three", x.bestOn(3, 9999), 11);
        Check.due("rate, not in three", x.rateFor(3, 0), 1);
        Check.due("rate, in four", x.rateFor(4, 0), Check.NONE);
        Check.due("battery, not in three", x.batteryFor(3, 0), 0);
        Check.due("battery, in four", x.batteryFor(4, 0), Check.NONE);
    }

    private static void leastMost() {
        CellarPump x = new CellarPump();
        Check.due("never more than 0", x.bestOn(200, 0), 11);
        Check.due("never more than 0", x.rateFor(200, 0), 1);
        Check.due("never more than 0", x.batteryFor(200, 0), 0);
        Check.due("the most", x.bestOn(1, 9999), 11);
        Check.due("the most", x.rateFor(1, 9999), 1);
        Check.due("the most", x.batteryFor(1, 9999), 0);
    }

    private static void rateFor() {
        CellarPump x = new CellarPump();
        x.water(0, 30, 0);
        // Deep is 60 as it starts; with 30 it is 60 - 30 behind that, and so on.
        Check.due("as much as comes", x.rateFor(200, 30), 30);
        Check.due("a little time, less is enough", x.rateFor(2, 50), 10);
        Check.due("one minute, nothing to pump", x.rateFor(1, 30), 1);
        Check.due("never", x.rateFor(1, 29), Check.NONE);
        Check.due("the rate stays", x.now(5), 20);
        int[][] wrong = {{0, 0}, {201, 0}, {1, -1}, {1, 10000}};
        for (int[] w : wrong) {
            Check.due("rateFor " + w[0] + " " + w[1], x.rateFor(w[0], w[1]), Check.BEYOND);
        }
        CellarPump y = new CellarPump();
        y.water(0, 99, 0);
        y.set(2, 9999);
        Check.due("99 is the most", y.rateFor(5, 9900), 99);
        y.water(0, 1, 0);
        y.set(2, 5000);
        Check.due("100 come: one more a minute", y.rateFor(1, 5001), 99);
        Check.due("and not enough", y.rateFor(2, 5001), Check.NONE);
    }

    private static void rateForTwice() {
        CellarPump x = new CellarPump();
        x.water(0, 30, 0);
        x.build(2);
        Check.due("it counts twice", x.rateFor(200, 30), 15);
    }

    private static void batteryFor() {
        CellarPump x = new CellarPump();
        x.water(0, 10, 0);
        // Starts in minute 4 with 50; each minute of the battery then takes 10 more than comes.
        Check.due("never too deep", x.batteryFor(4, 40), 0);
        Check.due("one minute", x.batteryFor(5, 40), 1);
        Check.due("ten minutes in 10", x.batteryFor(10, 60), 2);
        Check.due("nothing helps ahead of the mark", x.batteryFor(10, 39), Check.NONE);
        Check.due("the current stays", x.now(15), 1);
        x.set(7, 500);
        Check.due("not those that are there", x.batteryFor(10, 60), 2);
        int[][] wrong = {{0, 0}, {201, 0}, {1, -1}, {1, 10000}};
        for (int[] w : wrong) {
            Check.due("batteryFor " + w[0] + " " + w[1], x.batteryFor(w[0], w[1]), Check.BEYOND);
        }
    }

    /** It runs below its mark: without a battery it would stop, and not start again. */
    private static void batteryForOneThatRuns() {
        CellarPump x = new CellarPump();
        x.water(0, 10, 0);
        x.set(2, 45);
        x.minutes(1);
        Check.due("it runs", x.now(10), 1);
        Check.due("deep", x.now(2), 35);
        Check.due("one minute of the battery", x.batteryFor(1, 30), 1);
        Check.due("two", x.batteryFor(2, 30), 2);
    }

    private static void batteryForNone() {
        CellarPump x = new CellarPump();
        x.water(0, 20, 0);
        x.set(2, 1000);
        Check.due("all 200 minutes", x.batteryFor(200, 1000), 200);
        Check.due("all but one", x.batteryFor(200, 1020), 199);
        Check.due("one less deep", x.batteryFor(200, 999), Check.NONE);
    }
}

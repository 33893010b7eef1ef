/** Promises 2 to 13: waters, the measures, the minutes and the pump. */
public final class WatersTest {
    public static void main(String[] args) {
        water();
        waterOf();
        waterOfWithDitch();
        burst();
        change();
        set();
        setMarks();
        current();
        flap();
        minutesGround();
        minutesStartAndStop();
        minutesEdgesOfMarks();
        minutesRunOver();
        minutesLife();
        minutesLifeToldLess();
        minutesBattery();
        minutesRefused();
        now();
        renew();
        startLog();
        quickest();
        came();
        cameWraps();
        Check.finish();
    }

    private static void water() {
        CellarPump x = new CellarPump();
        int[][] wrong = {{-1, 1, 0}, {7, 1, 0}, {0, 0, 0}, {0, 100, 0}, {0, 1, -1}, {0, 1, 1000},
            {Integer.MIN_VALUE, 1, 0}, {0, Integer.MAX_VALUE, 0}, {0, 1, Integer.MIN_VALUE}};
        for (int[] w : wrong) {
            Check.due("water " + w[0] + " " + w[1] + " " + w[2], x.water(w[0], w[1], w[2]), Check.BEYOND);
        }
        Check.due("none was made", x.count(0), 0);
        for (int i = 0; i < 8; i++) {
            Check.due("water " + i, x.water(i % 7, i == 0 ? 1 : 99, i == 0 ? 0 : 999), i);
        }
        Check.due("a ninth", x.water(0, 1, 0), Check.FULL);
        Check.due("a ninth, wrong: BEYOND is asked first", x.water(0, 0, 0), Check.BEYOND);
        Check.due("eight stay", x.count(0), 8);
    }

    private static void waterOf() {
        CellarPump x = new CellarPump();
        for (int kind = 0; kind < 7; kind++) {
            x.water(kind, 9, 5);
        }
        x.set(0, 7);
        x.set(1, 250);
        // 9 * 250 / 100 is 22, half of that 11; the rain is 2 above the mark.
        int[] comes = {9, 22, 18, 0, 11, 0, 11};
        for (int kind = 0; kind < 7; kind++) {
            Check.due("kind", x.waterOf(kind, 0), kind);
            Check.due("flow", x.waterOf(kind, 1), 9);
            Check.due("mark", x.waterOf(kind, 2), 5);
            Check.due("comes of kind " + kind, x.waterOf(kind, 3), comes[kind]);
            Check.due("brought at first", x.waterOf(kind, 4), 0);
        }
        x.flap(true);
        Check.due("backed, the flap sticks", x.waterOf(3, 3), 18);
        x.set(0, 5);
        Check.due("stepped, rain as the mark", x.waterOf(2, 3), 0);
        Check.due("backed, rain as the mark", x.waterOf(3, 3), 0);
        x.set(0, 0);
        Check.due("stepped, rain below the mark", x.waterOf(2, 3), 0);
        x.minutes(1);
        // The ground is 250 - 5, 9 * 245 / 100 is 22.
        int[] brought = {9, 22, 0, 0, 11, 0, 11};
        for (int kind = 0; kind < 7; kind++) {
            Check.due("brought by kind " + kind, x.waterOf(kind, 4), brought[kind]);
        }
        Check.due("no such water", x.waterOf(7, 0), Check.BEYOND);
        Check.due("no such water", x.waterOf(-1, 0), Check.BEYOND);
        Check.due("no such what", x.waterOf(0, 5), Check.BEYOND);
        Check.due("no such what", x.waterOf(0, -1), Check.BEYOND);
    }

    private static void waterOfWithDitch() {
        CellarPump x = new CellarPump();
        for (int kind = 0; kind < 7; kind++) {
            x.water(kind, 10, 0);
        }
        x.set(0, 3);
        x.set(1, 175);
        x.flap(true);
        x.build(0);
        // Of the ground come 17, its half is 8, the half of that 4.
        int[] comes = {10, 8, 30, 30, 4, 10, 14};
        for (int kind = 0; kind < 7; kind++) {
            Check.due("with the ditch comes of kind " + kind, x.waterOf(kind, 3), comes[kind]);
        }
        x.set(1, 180);
        Check.due("18, its half", x.waterOf(1, 3), 9);
    }

    private static void burst() {
        CellarPump x = new CellarPump();
        x.water(5, 4, 2);
        x.minutes(2);
        Check.due("nothing ahead of its minute", x.waterOf(0, 4), 0);
        Check.due("it comes from its minute on", x.waterOf(0, 3), 4);
        x.minutes(1);
        Check.due("it came in its minute", x.waterOf(0, 4), 4);
        x.minutes(2);
        Check.due("it goes on", x.waterOf(0, 4), 12);
    }

    private static void change() {
        CellarPump x = new CellarPump();
        Check.due("no water yet", x.change(0, 1, 5), Check.BEYOND);
        x.water(2, 7, 20);
        Check.due("flow was", x.change(0, 1, 99), 7);
        Check.due("flow is", x.waterOf(0, 1), 99);
        Check.due("mark was", x.change(0, 2, 999), 20);
        Check.due("mark is", x.waterOf(0, 2), 999);
        Check.due("least flow", x.change(0, 1, 1), 99);
        Check.due("least mark", x.change(0, 2, 0), 999);
        int[][] wrong = {{0, 1, 0}, {0, 1, 100}, {0, 2, -1}, {0, 2, 1000}, {0, 0, 1}, {0, 3, 1}, {1, 1, 1}, {-1, 1, 1}};
        for (int[] w : wrong) {
            Check.due("change " + w[0] + " " + w[1] + " " + w[2], x.change(w[0], w[1], w[2]), Check.BEYOND);
        }
        Check.due("flow stays", x.waterOf(0, 1), 1);
        Check.due("mark stays", x.waterOf(0, 2), 0);
    }

    private static void set() {
        int[] first = {0, 100, 0, 50, 10, 20, 500, 0};
        int[] least = {0, 0, 0, 11, 0, 1, 1, 0};
        int[] most = {99, 999, 9999, 999, 49, 99, 999, 999};
        for (int what = 0; what < 8; what++) {
            CellarPump x = new CellarPump();
            Check.due("set above, " + what, x.set(what, most[what] + 1), Check.BEYOND);
            Check.due("set below, " + what, x.set(what, least[what] - 1), Check.BEYOND);
            Check.due("nothing was set, " + what, x.now(what), first[what]);
            Check.due("set the most, " + what, x.set(what, most[what]), first[what]);
            Check.due("set the least, " + what, x.set(what, least[what]), most[what]);
            Check.due("it is set, " + what, x.now(what), least[what]);
            for (int other = 0; other < 8; other++) {
                if (other != what) {
                    Check.due("others stay, " + what + " " + other, x.now(other), first[other]);
                }
            }
        }
        CellarPump x = new CellarPump();
        Check.due("no such what", x.set(-1, 1), Check.BEYOND);
        Check.due("no such what", x.set(8, 1), Check.BEYOND);
    }

    private static void setMarks() {
        CellarPump x = new CellarPump();
        Check.due("off can't be on", x.set(4, 50), Check.BEYOND);
        Check.due("on can't be off", x.set(3, 10), Check.BEYOND);
        x.set(3, 999);
        Check.due("off just below on", x.set(4, 998), 10);
        Check.due("on can't go down to off", x.set(3, 998), Check.BEYOND);
        Check.due("off can't be 999", x.set(4, 999), Check.BEYOND);
        x.set(4, 0);
        Check.due("on 0", x.set(3, 0), Check.BEYOND);
        Check.due("on 1", x.set(3, 1), 999);
    }

    private static void current() {
        CellarPump x = new CellarPump();
        Check.due("there at first", x.current(true), 1);
        Check.due("there still", x.current(false), 1);
        Check.due("gone", x.now(15), 0);
        Check.due("gone still", x.current(false), 0);
        Check.due("comes again", x.current(true), 0);
        Check.due("there", x.now(15), 1);
    }

    private static void flap() {
        CellarPump x = new CellarPump();
        Check.due("not at first", x.flap(false), 0);
        Check.due("not yet", x.flap(true), 0);
        Check.due("it does", x.now(16), 1);
        Check.due("it did", x.flap(false), 1);
        Check.due("it doesn't", x.now(16), 0);
        x.flap(true);
        x.build(1);
        Check.due("never with the valve", x.now(16), 0);
        Check.due("it can't with the valve", x.flap(true), Check.STATE);
        Check.due("it may shut with the valve", x.flap(false), 0);
    }

    private static void minutesGround() {
        CellarPump x = new CellarPump();
        x.set(0, 12);
        x.set(1, 300);
        x.minutes(1);
        Check.due("312 less 6", x.now(1), 306);
        x.set(1, 990);
        x.set(0, 40);
        x.minutes(1);
        Check.due("1030 less 20 is 999 at most", x.now(1), 999);
        x.set(1, 100);
        x.set(0, 0);
        x.minutes(1);
        Check.due("100 less 2", x.now(1), 98);
        x.set(1, 49);
        x.minutes(1);
        Check.due("a 50th is cut", x.now(1), 49);
        x.set(1, 0);
        x.set(0, 99);
        x.water(1, 10, 0);
        x.minutes(1);
        Check.due("99 less 1", x.now(1), 98);
        Check.due("it comes by the ground as it is then", x.now(12), 9);
    }

    /** Five a minute; on 20, off 3, rate 10: the pump starts each sixth minute. */
    private static CellarPump sixes() {
        CellarPump x = new CellarPump();
        x.water(0, 5, 0);
        x.set(4, 3);
        x.set(3, 20);
        x.set(5, 10);
        return x;
    }

    private static void minutesStartAndStop() {
        CellarPump x = sixes();
        int[] deep = {5, 10, 15, 10, 5, 0, 5, 10, 15, 10, 5, 0, 5};
        int[] runs = {0, 0, 0, 1, 1, 0, 0, 0, 0, 1, 1, 0, 0};
        for (int m = 0; m < deep.length; m++) {
            Check.due("minute " + m, x.minutes(1), deep[m]);
            Check.due("deep behind minute " + m, x.now(2), deep[m]);
            Check.due("runs behind minute " + m, x.now(10), runs[m]);
            Check.due("the clock", x.now(8), m + 1);
        }
        Check.due("starts", x.now(9), 2);
        Check.due("came", x.now(12), 65);
        Check.due("pumped", x.now(13), 60);
        Check.due("200 at once", x.minutes(200), 15);
        Check.due("clock", x.now(8), 213);
    }

    private static void minutesEdgesOfMarks() {
        CellarPump x = new CellarPump();
        x.set(2, 49);
        Check.due("just below on", x.minutes(1), 49);
        x.set(2, 50);
        Check.due("just on", x.minutes(1), 30);
        Check.due("down to off it stops", x.minutes(1), 10);
        Check.due("it stopped", x.now(10), 0);
        Check.due("one start", x.now(9), 1);
        x.set(2, 51);
        x.minutes(2);
        Check.due("just above off it goes on", x.now(10), 1);
        Check.due("pumped as far as it is deep", x.minutes(1), 0);
        Check.due("pumped in all", x.now(13), 40 + 51);
        x.build(2);
        x.set(2, 90);
        Check.due("with the second the rate counts twice", x.minutes(1), 50);
        Check.due("the rate is told once", x.now(5), 20);
    }

    private static void minutesRunOver() {
        CellarPump x = new CellarPump();
        x.current(false);
        x.water(0, 30, 0);
        x.set(2, 9990);
        Check.due("9999 at most", x.minutes(1), 9999);
        Check.due("ran over", x.now(14), 21);
        Check.due("came all the same", x.now(12), 30);
        Check.due("brought all the same", x.waterOf(0, 4), 30);
        x.current(true);
        Check.due("over, then pumped", x.minutes(1), 9979);
        Check.due("ran over", x.now(14), 51);
        Check.due("below", x.minutes(1), 9979);
        Check.due("10 more ran over", x.now(14), 61);
    }

    private static void minutesLife() {
        CellarPump x = sixes();
        x.set(6, 1);
        x.minutes(9);
        Check.due("not dead with as many starts as life", x.now(11), 0);
        Check.due("deep", x.now(2), 15);
        Check.due("with one more it is dead", x.minutes(1), 20);
        Check.due("dead", x.now(11), 1);
        Check.due("doesn't run", x.now(10), 0);
        Check.due("two starts", x.now(9), 2);
        Check.due("the log has both", x.count(3), 2);
        Check.due("the second", x.start(1), 9);
        Check.due("it doesn't start any more", x.minutes(2), 30);
        Check.due("two starts still", x.now(9), 2);
        x.set(6, 2);
        Check.due("by life as it is", x.now(11), 0);
        Check.due("it starts, but doesn't run", x.minutes(1), 35);
        Check.due("and is dead by that", x.now(9), 3);
    }

    private static void minutesLifeToldLess() {
        CellarPump x = sixes();
        x.minutes(10);
        Check.due("it runs", x.now(10), 1);
        x.set(6, 1);
        Check.due("it is dead", x.now(11), 1);
        Check.due("it runs still", x.now(10), 1);
        Check.due("it goes on", x.minutes(1), 5);
        Check.due("till it stops", x.minutes(1), 0);
        Check.due("stopped", x.now(10), 0);
        Check.due("never again", x.minutes(10), 50);
    }

    private static void minutesBattery() {
        CellarPump x = sixes();
        x.current(false);
        x.set(7, 2);
        x.minutes(3);
        Check.due("nothing is used", x.now(7), 2);
        Check.due("it starts by the battery", x.minutes(1), 10);
        Check.due("one less", x.now(7), 1);
        Check.due("goes on", x.minutes(1), 5);
        Check.due("empty", x.now(7), 0);
        Check.due("it runs as it is told", x.now(10), 1);
        Check.due("stops with nothing", x.minutes(1), 10);
        Check.due("stopped", x.now(10), 0);
        Check.due("no start with nothing", x.minutes(3), 25);
        Check.due("one start", x.now(9), 1);
        x.set(7, 1);
        Check.due("one minute is enough to start", x.minutes(1), 20);
        x.current(true);
        Check.due("with current", x.minutes(1), 15);
        Check.due("the battery rests with current", x.now(7), 0);
        x.set(7, 5);
        x.minutes(1);
        Check.due("also if it has some", x.now(7), 5);
    }

    private static void minutesRefused() {
        CellarPump x = new CellarPump();
        x.water(0, 5, 0);
        Check.due("0", x.minutes(0), Check.BEYOND);
        Check.due("-1", x.minutes(-1), Check.BEYOND);
        Check.due("201", x.minutes(201), Check.BEYOND);
        Check.due("no minute went", x.now(8), 0);
        Check.due("nothing came", x.now(12), 0);
    }

    private static void now() {
        CellarPump x = new CellarPump();
        int[] first = {0, 100, 0, 50, 10, 20, 500, 0, 0, 0, 0, 0, 0, 0, 0, 1, 0};
        for (int what = 0; what < first.length; what++) {
            Check.due("at first " + what, x.now(what), first[what]);
        }
        Check.due("no such what", x.now(-1), Check.BEYOND);
        Check.due("no such what", x.now(17), Check.BEYOND);
    }

    private static void renew() {
        CellarPump x = sixes();
        x.minutes(10);
        Check.due("two starts were", x.renew(), 2);
        Check.due("none are", x.now(9), 0);
        Check.due("the log is empty", x.count(3), 0);
        Check.due("it doesn't run", x.now(10), 0);
        Check.due("no start to tell", x.start(0), Check.BEYOND);
        Check.due("pumped stays", x.now(13), 40);
        Check.due("none were", x.renew(), 0);
        x.minutes(2);
        Check.due("a new first start", x.start(0), 11);
        CellarPump y = sixes();
        y.set(6, 1);
        y.minutes(10);
        y.renew();
        Check.due("a new one isn't dead", y.now(11), 0);
    }

    /** One a minute; on 1, off 0: the pump starts each minute. */
    private static CellarPump ones() {
        CellarPump x = new CellarPump();
        x.water(0, 1, 0);
        x.set(4, 0);
        x.set(3, 1);
        return x;
    }

    private static void startLog() {
        CellarPump x = ones();
        Check.due("none yet", x.start(0), Check.BEYOND);
        x.minutes(39);
        Check.due("start 38", x.start(38), 38);
        Check.due("no start 39 yet", x.start(39), Check.BEYOND);
        x.minutes(3);
        Check.due("start 0", x.start(0), 0);
        Check.due("start 39", x.start(39), 39);
        Check.due("40 are kept", x.start(40), Check.BEYOND);
        Check.due("below 0", x.start(-1), Check.BEYOND);
        Check.due("the log's", x.count(3), 40);
        Check.due("starts", x.now(9), 42);
    }

    private static void quickest() {
        CellarPump x = sixes();
        Check.due("none", x.quickest(), Check.NONE);
        x.minutes(4);
        Check.due("one", x.quickest(), Check.NONE);
        x.minutes(6);
        Check.due("two", x.quickest(), 6);
        x.minutes(2);
        x.set(2, 11);
        x.minutes(2);
        Check.due("starts at 3, 9, 13", x.start(2), 13);
        Check.due("the least", x.quickest(), 4);
        x.minutes(20);
        Check.due("the least stays", x.quickest(), 4);
        CellarPump y = ones();
        y.water(5, 1, 60);
        y.minutes(40);
        Check.due("by the log alone", y.quickest(), 1);
    }

    private static void came() {
        CellarPump x = new CellarPump();
        Check.due("no waters", x.came(), Check.NONE);
        x.water(0, 5, 0);
        x.water(0, 5, 0);
        x.water(5, 9, 10);
        Check.due("all alike at first", x.came(), 0);
        x.minutes(10);
        Check.due("of several the least number", x.came(), 0);
        x.change(1, 1, 6);
        x.minutes(1);
        Check.due("one more", x.came(), 1);
        x.minutes(50);
        Check.due("the burst one later", x.came(), 2);
        for (int i = 3; i < 8; i++) {
            x.water(0, 10 + 10 * i, 0);
        }
        x.minutes(20);
        Check.due("the last of eight", x.came(), 7);
    }

    /** What came so far is an int: it wraps around. */
    private static void cameWraps() {
        CellarPump x = new CellarPump();
        for (int i = 0; i < 8; i++) {
            x.water(2, 99, 0);
        }
        x.set(0, 99);
        int due = 0;
        for (int i = 0; i < 200; i++) {
            x.minutes(200);
            due += 200 * 8 * 99 * 99;
        }
        Check.due("came, wrapped", x.now(12), due);
        Check.due("brought by one", x.waterOf(0, 4), 200 * 200 * 99 * 99);
        Check.due("no finding was told", x.status(-1), 0);
    }
}

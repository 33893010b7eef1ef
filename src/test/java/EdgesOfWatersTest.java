/** The edges that promises 2 to 13 name: waters, measures, minutes, the pump's log. */
public final class EdgesOfWatersTest {
    public static void main(String[] args) {
        water();
        waterOf();
        waterOfRefused();
        change();
        changeRefused();
        set();
        setRefused();
        current();
        flap();
        minutes();
        now();
        nowCounts();
        nowWraps();
        nowRefused();
        renew();
        start();
        quickest();
        came();
        Check.finish();
    }

    private static void water() {
        Edges.says("A new WATER: its number. BEYOND: kind, flow, mark. FULL.");
        Edges.range("kind", 0, 6, Edges::nothing, (x, v) -> x.water(v, 1, 0));
        Edges.range("flow", 1, 99, Edges::nothing, (x, v) -> x.water(6, v, 999));
        Edges.range("mark", 0, 999, Edges::nothing, (x, v) -> x.water(6, 99, v));
        Edges.refused("a ninth", Check.FULL, EdgesOfWatersTest::eightWaters, x -> x.water(0, 1, 0));
        Edges.refused("a ninth of no kind", Check.BEYOND, EdgesOfWatersTest::eightWaters, x -> x.water(7, 1, 0));
        Edges.refused("a ninth of no flow", Check.BEYOND, EdgesOfWatersTest::eightWaters, x -> x.water(0, 0, 0));
        Edges.refused("a ninth of no mark", Check.BEYOND, EdgesOfWatersTest::eightWaters, x -> x.water(0, 1, -1));
        CellarPump x = Edges.made(EdgesOfWatersTest::eightWaters);
        Edges.due("the eighth is there", x.waterOf(7, 1), 8);
        Edges.due("a water made later brought nothing", Edges.made(y -> {
            y.water(0, 9, 0);
            y.minutes(3);
            y.water(0, 9, 0);
        }).waterOf(1, 4), 0);
    }

    private static void eightWaters(CellarPump x) {
        for (int i = 0; i < 8; i++) {
            x.water(i % 7, 1 + i, i);
        }
    }

    private static void waterOf() {
        Edges.says("Of a WATER: what 0 KIND, 1 FLOW, 2 MARK, 3 what COMES of it as things are now, 4 what it brought so far.");
        CellarPump x = new CellarPump();
        x.current(false);
        x.water(6, 99, 999);
        x.water(5, 4, 1);
        x.set(1, 999);
        int[] due = {6, 99, 999, 494, 0};
        for (int what = 0; what < 5; what++) {
            Edges.due("what " + what, x.waterOf(0, what), due[what]);
        }
        Edges.due("as things are now: minute 0", x.waterOf(1, 3), 0);
        x.minutes(1);
        Edges.due("minute 1", x.waterOf(1, 3), 4);
        Edges.due("the ground is 980", x.waterOf(0, 3), 485);
        Edges.due("so far", x.waterOf(0, 4), 485);
        x.set(1, 0);
        Edges.due("no ground", x.waterOf(0, 3), 0);
        x.set(2, 9999);
        x.minutes(1);
        Edges.due("what ran over was brought, too", x.waterOf(1, 4), 4);
    }

    private static void waterOfRefused() {
        Edges.says("3 what COMES of it as things are now, 4 what it brought so far. BEYOND.");
        Edges.refused("none is there", Check.BEYOND, Edges::nothing, x -> x.waterOf(0, 0));
        Edges.range("water", 0, 2, Edges::lived, (x, v) -> x.waterOf(v, 0));
        Edges.range("what", 0, 4, Edges::lived, (x, v) -> x.waterOf(0, v));
    }

    private static void change() {
        Edges.says("FLOW (what 1), MARK (2) of a WATER becomes v: what it was.");
        CellarPump x = new CellarPump();
        x.water(2, 7, 20);
        x.water(2, 7, 20);
        Edges.due("flow, the most", x.change(1, 1, 99), 7);
        Edges.due("flow, the least", x.change(1, 1, 1), 99);
        Edges.due("mark, the most", x.change(1, 2, 999), 20);
        Edges.due("mark, the least", x.change(1, 2, 0), 999);
        Edges.due("flow then", x.waterOf(1, 1), 1);
        Edges.due("mark then", x.waterOf(1, 2), 0);
        Edges.due("the other's flow", x.waterOf(0, 1), 7);
        Edges.due("the other's mark", x.waterOf(0, 2), 20);
    }

    private static void changeRefused() {
        Edges.says("MARK (2) of a WATER becomes v: what it was. BEYOND.");
        Edges.refused("none is there", Check.BEYOND, Edges::nothing, x -> x.change(0, 1, 1));
        Edges.range("water", 0, 2, Edges::lived, (x, v) -> x.change(v, 1, 50));
        Edges.range("what", 1, 2, Edges::lived, (x, v) -> x.change(0, v, 50));
        Edges.range("flow", 1, 99, Edges::lived, (x, v) -> x.change(2, 1, v));
        Edges.range("mark", 0, 999, Edges::lived, (x, v) -> x.change(2, 2, v));
    }

    private static void set() {
        Edges.says("RAIN (what 0), GROUND (1), DEEP (2), ON (3), OFF (4), RATE (5), LIFE (6), THE BATTERY (7) becomes v:"
            + " what it was.");
        int[] first = {0, 100, 0, 50, 10, 20, 500, 0};
        for (int what = 0; what < 8; what++) {
            CellarPump x = new CellarPump();
            Edges.due("what it was, " + what, x.set(what, 30 + what), first[what]);
            Edges.due("what it was then, " + what, x.set(what, 25), 30 + what);
            for (int other = 0; other < 8; other++) {
                Edges.due("measure " + other, x.now(other), other == what ? 25 : first[other]);
            }
        }
    }

    private static void setRefused() {
        Edges.says("THE BATTERY (7) becomes v: what it was. BEYOND: also if OFF wouldn't be below ON.");
        Edges.range("what", 0, 7, Edges::nothing, (x, v) -> x.set(v, 20));
        int[] least = {0, 0, 0, 5, 0, 1, 1, 0};
        int[] most = {99, 999, 9999, 999, 14, 99, 999, 999};
        for (int what = 0; what < 8; what++) {
            int which = what;
            // What has lived has OFF 4, ON 15.
            Edges.range("measure " + what, least[what], most[what], Edges::lived, (x, v) -> x.set(which, v));
        }
        Edges.refused("on 0, off 0", Check.BEYOND, x -> x.set(4, 0), x -> x.set(3, 0));
        Edges.refused("off 999, on 999", Check.BEYOND, x -> x.set(3, 999), x -> x.set(4, 999));
        Edges.refused("on below off", Check.BEYOND, Edges::nothing, x -> x.set(3, 9));
        Edges.refused("off above on", Check.BEYOND, Edges::nothing, x -> x.set(4, 51));
    }

    private static void current() {
        Edges.says("THE CURRENT is there, or not: 1 if it was, else 0.");
        CellarPump x = new CellarPump();
        boolean[] told = {true, false, false, true, true};
        int was = 1;
        for (boolean is : told) {
            Edges.due("what was", x.current(is), was);
            was = is ? 1 : 0;
            Edges.due("what is", x.now(15), was);
        }
    }

    private static void flap() {
        Edges.says("THE FLAP STICKS, or not (with the VALVE never: STATE, if it is to stick): 1 if it did, else 0. STATE.");
        CellarPump x = new CellarPump();
        boolean[] told = {false, true, true, false, true};
        int was = 0;
        for (boolean sticks : told) {
            Edges.due("what was", x.flap(sticks), was);
            was = sticks ? 1 : 0;
            Edges.due("what is", x.now(16), was);
        }
        x.build(1);
        Edges.due("it did, but the valve is there", x.flap(false), 0);
        Edges.refused("with the valve", Check.STATE, y -> {
            Edges.lived(y);
            y.build(1);
        }, y -> y.flap(true));
    }

    private static void minutes() {
        Edges.says("n MINUTES (1 to 200): DEEP. BEYOND.");
        Edges.range("n", 1, 200, Edges::lived, CellarPump::minutes);
        CellarPump x = new CellarPump();
        x.current(false);
        x.water(0, 1, 0);
        Edges.due("one", x.minutes(1), 1);
        Edges.due("200", x.minutes(200), 201);
        Edges.due("the clock", x.now(8), 201);
    }

    private static void now() {
        Edges.says("What 0 RAIN, 1 GROUND, 2 DEEP, 3 ON, 4 OFF, 5 RATE, 6 LIFE, 7 THE BATTERY, 8 MINUTE, 9 STARTS, 10 1 if"
            + " THE PUMP RUNS, 11 1 if it is DEAD,");
        CellarPump x = new CellarPump();
        int[] put = {3, 49, 200, 60, 11, 7, 1, 5};
        for (int what = 0; what < 8; what++) {
            x.set(what, put[what]);
        }
        x.minutes(1);
        // The ground is 52 less 1, 7 are pumped.
        int[] due = {3, 51, 193, 60, 11, 7, 1, 5, 1, 1, 1, 0};
        for (int what = 0; what < 12; what++) {
            Edges.due("what " + what, x.now(what), due[what]);
        }
        x.set(2, 5);
        x.minutes(1);
        Edges.due("it stopped", x.now(10), 0);
        x.set(2, 100);
        x.minutes(1);
        Edges.due("dead", x.now(11), 1);
        Edges.due("starts", x.now(9), 2);
    }

    private static void nowCounts() {
        Edges.says("12 what came, 13 was pumped, 14 RAN OVER so far (ints), 15 1 if there is CURRENT, 16 1 if THE FLAP STICKS"
            + " (else 0).");
        CellarPump x = new CellarPump();
        x.water(0, 30, 0);
        x.set(2, 9980);
        x.minutes(1);
        Edges.due("came", x.now(12), 30);
        Edges.due("pumped", x.now(13), 20);
        Edges.due("ran over", x.now(14), 11);
        Edges.due("current", x.now(15), 1);
        Edges.due("flap", x.now(16), 0);
        x.current(false);
        x.flap(true);
        Edges.due("no current", x.now(15), 0);
        Edges.due("it sticks", x.now(16), 1);
        x.minutes(1);
        Edges.due("came so far", x.now(12), 60);
        Edges.due("pumped so far", x.now(13), 20);
        Edges.due("ran over so far", x.now(14), 11 + 9979 + 30 - 9999);
    }

    private static void nowWraps() {
        Edges.says("14 RAN OVER so far (ints)");
        CellarPump x = new CellarPump();
        x.current(false);
        for (int i = 0; i < 8; i++) {
            x.water(2, 99, 0);
        }
        x.set(0, 99);
        x.set(2, 9999);
        int due = 0;
        for (int i = 0; i < 150; i++) {
            x.minutes(200);
            due += 200 * 8 * 9801;
        }
        Edges.due("came, more than an int holds", x.now(12), due);
        Edges.due("ran over, more than an int holds", x.now(14), due);
        Edges.due("they wrapped around", due < 0 ? 1 : 0, 1);
    }

    private static void nowRefused() {
        Edges.says("15 1 if there is CURRENT, 16 1 if THE FLAP STICKS (else 0). BEYOND.");
        Edges.range("what", 0, 16, Edges::lived, CellarPump::now);
    }

    private static void renew() {
        Edges.says("A new pump: STARTS are 0 (THE LOG is empty), it doesn't RUN: how many STARTS there were.");
        CellarPump x = new CellarPump();
        Edges.due("none", x.renew(), 0);
        x.set(6, 1);
        x.set(2, 50);
        x.minutes(2);
        x.set(2, 50);
        x.minutes(2);
        Edges.due("dead", x.now(11), 1);
        Edges.due("two", x.renew(), 2);
        Edges.due("starts", x.now(9), 0);
        Edges.due("log", x.count(3), 0);
        Edges.due("no start of it", x.start(0), Check.BEYOND);
        Edges.due("no two of it", x.quickest(), Check.NONE);
        Edges.due("dead no more", x.now(11), 0);
        Edges.due("life stays", x.now(6), 1);
        x.set(2, 90);
        x.minutes(1);
        Edges.due("it runs", x.now(10), 1);
        Edges.due("one", x.renew(), 1);
        Edges.due("it doesn't run", x.now(10), 0);
        x.set(2, 40);
        Edges.due("so below on nothing is pumped", x.minutes(1), 40);
        Edges.due("pumped stays", x.now(13), 60);
    }

    /** 60 come and are pumped each minute: a start in each. */
    private static void startsEachMinute(CellarPump x) {
        x.water(0, 60, 0);
        x.set(5, 60);
    }

    private static void start() {
        Edges.says("The MINUTE of START i of THE LOG. BEYOND.");
        Edges.refused("the log is empty", Check.BEYOND, Edges::nothing, x -> x.start(0));
        Edges.range("i of 40, of 50 starts", 0, 39, x -> {
            startsEachMinute(x);
            x.minutes(50);
        }, CellarPump::start);
        Edges.range("i of 3", 0, 2, x -> {
            startsEachMinute(x);
            x.minutes(3);
        }, CellarPump::start);
        CellarPump x = new CellarPump();
        x.minutes(7);
        startsEachMinute(x);
        x.minutes(50);
        Edges.due("the first", x.start(0), 7);
        Edges.due("the last", x.start(39), 46);
    }

    private static void quickest() {
        Edges.says("The least number of MINUTES between two STARTS of THE LOG, one behind the other. NONE: fewer than two.");
        Edges.refused("no start", Check.NONE, Edges::nothing, CellarPump::quickest);
        Edges.refused("one", Check.NONE, x -> {
            startsEachMinute(x);
            x.minutes(1);
        }, CellarPump::quickest);
        CellarPump x = new CellarPump();
        x.set(2, 50);
        x.minutes(5);
        x.set(2, 50);
        x.minutes(3);
        Edges.due("two: 0 and 5", x.quickest(), 5);
        x.set(2, 50);
        x.minutes(4);
        Edges.due("and 8", x.quickest(), 3);
        x.set(2, 50);
        x.minutes(1);
        Edges.due("and 12", x.quickest(), 3);
        CellarPump z = new CellarPump();
        z.minutes(100);
        z.set(2, 50);
        z.minutes(9);
        z.set(2, 50);
        z.minutes(1);
        Edges.due("two: 100 and 109", z.quickest(), 9);
        CellarPump y = new CellarPump();
        y.set(5, 60);
        y.set(4, 0);
        y.water(2, 1, 0);
        for (int i = 0; i < 40; i++) {
            y.set(0, 60);
            y.minutes(1);
            y.set(0, 0);
            y.minutes(1);
        }
        y.set(0, 60);
        y.minutes(3);
        Edges.due("43 starts", y.now(9), 43);
        Edges.due("later ones are not of the log", y.quickest(), 2);
    }

    private static void came() {
        Edges.says("The WATER that brought most so far. NONE: there are none.");
        Edges.refused("no waters", Check.NONE, Edges::nothing, CellarPump::came);
        CellarPump x = new CellarPump();
        x.water(5, 9, 999);
        x.water(5, 9, 999);
        Edges.due("nothing was brought", x.came(), 0);
        Edges.due("the second of two", Edges.made(y -> {
            y.water(0, 4, 0);
            y.water(0, 5, 0);
            y.minutes(1);
        }).came(), 1);
        for (int i = 2; i < 8; i++) {
            x.water(0, 5, 0);
        }
        x.minutes(1);
        Edges.due("six alike", x.came(), 2);
        x.change(7, 1, 6);
        x.minutes(1);
        Edges.due("one more of the last", x.came(), 7);
        x.change(7, 1, 1);
        x.minutes(1);
        Edges.due("so far, not now", x.came(), 2);
    }
}

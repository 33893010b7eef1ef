/** The edges that "Terms" names, ahead of its parts and in part 1: findings, waters, the pump, a minute, things. */
public final class EdgesOfTermsTest {
    public static void main(String[] args) {
        findings();
        zIsNoFinding();
        orderOfFindings();
        findingsChangeNothing();
        quotientsAreCut();
        leastOfSeveral();
        rainGroundDeep();
        waters();
        kinds();
        comesOfWater();
        comesOfGrounds();
        comesOfStepped();
        comesOfBacked();
        comesOfSeeped();
        comesOfNeighbours();
        comesOfBurst();
        pumpsMeasures();
        pumpAtFirst();
        currentAndBattery();
        dead();
        minuteOfGround();
        minuteOfWaters();
        minuteOfStarting();
        minuteOfRunning();
        minuteCounts();
        log();
        things();
        harmed();
        Check.finish();
    }

    private static void findings() {
        Edges.says("FINDINGS are answers below -1000000: LOW is -1000001; LOW BEYOND, LOW - 1 FULL, LOW - 2 KIND,"
            + " LOW - 3 NONE, LOW - 4 STATE, LOW - 5 MISSING, LOW - 6 SIZE.");
        CellarPump x = new CellarPump();
        for (int i = 0; i < 25; i++) {
            x.feed(0, 4);
        }
        x.water(0, 1, 0);
        x.hold(0, 0);
        x.build(0);
        Edges.due("BEYOND", x.now(17), -1000001);
        Edges.due("FULL", x.feed(0, 1), -1000002);
        Edges.due("KIND", x.as(0, 1), -1000003);
        Edges.due("NONE", x.undo(), -1000004);
        Edges.due("STATE", x.build(0), -1000005);
        Edges.due("MISSING", x.load(0), -1000006);
        Edges.due("SIZE", x.sheet(0, 8, -1), -1000007);
    }

    private static void zIsNoFinding() {
        Edges.says("What seed() and count(6) tell, z, may be any int: that is no finding.");
        CellarPump x = new CellarPump();
        int was = 1;
        for (int z : new int[] {-1000000, -1000001, -1000004, -1000007, -1000008, Edges.MIN, Edges.MAX, 0}) {
            Edges.due("seed", x.seed(z), was);
            Edges.due("count", x.count(6), z);
            was = z;
        }
        Edges.due("no finding was told", x.status(-1), 0);
    }

    private static void orderOfFindings() {
        Edges.says("Each act tells its findings in the order in which they are asked (that of its words);");
        CellarPump x = new CellarPump();
        for (int i = 0; i < 10; i++) {
            x.water(0, 1, 0);
            x.thing(1, 1, 900);
        }
        for (int i = 0; i < 6; i++) {
            Check.sky(x, "wait 1");
        }
        for (int i = 0; i < 25; i++) {
            x.feed(' ', 4);
        }
        Edges.due("water, BEYOND and FULL", x.water(7, 1, 0), Check.BEYOND);
        Edges.due("thing, BEYOND and FULL", x.thing(1, 1, 1000), Check.BEYOND);
        Edges.due("feed, BEYOND and FULL", x.feed(0, 5), Check.BEYOND);
        Edges.due("sky, FULL and a FAULT", x.sky(), Check.FULL);
        Edges.due("as, BEYOND and MISSING", x.as(0, 7), Check.BEYOND);
        Edges.due("sheet, BEYOND by its number and SIZE", x.sheet(4, 8, -1), Check.BEYOND);
        Edges.due("sheet, BEYOND by its bits and SIZE", x.sheet(0, 9, -1), Check.BEYOND);
        Edges.due("write, MISSING and BEYOND by the number", x.write(0, -1, 0), Check.MISSING);
        x.sheet(1, 8, 2);
        x.sheet(2, 16, 2);
        Edges.due("copy, BEYOND and MISSING", x.copy(0, 0, 4, 0, 0), Check.BEYOND);
        Edges.due("copy, MISSING and BEYOND by n", x.copy(0, 0, 1, 0, -1), Check.MISSING);
        Edges.due("copy, KIND and BEYOND by n", x.copy(1, 0, 2, 0, 3), Check.KIND);
        x.set(3, 999);
        x.set(4, 200);
        Edges.due("bestOn, BEYOND and NONE", x.bestOn(0, 0), Check.BEYOND);
    }

    private static void findingsChangeNothing() {
        Edges.says("one that answers a finding changes nothing but status().");
        Edges.refused("BEYOND", Check.BEYOND, Edges::lived, x -> x.set(0, 100));
        Edges.refused("KIND", Check.KIND, Edges::lived, x -> x.as(3, 2));
        Edges.refused("KIND of sheets", Check.KIND, Edges::lived, x -> x.copy(0, 0, 1, 0, 1));
        Edges.refused("NONE", Check.NONE, Edges::lived, x -> x.rateFor(200, 0));
        Edges.refused("STATE", Check.STATE, Edges::lived, x -> x.lift(0));
        Edges.refused("MISSING", Check.MISSING, Edges::lived, x -> x.write(3, 0, 1));
        Edges.refused("SIZE", Check.SIZE, Edges::lived, x -> x.sheet(0, 0, -1));
        Edges.refused("FULL", Check.FULL, x -> {
            Edges.lived(x);
            for (int i = 0; i < 5; i++) {
                x.water(0, 1, 0);
            }
        }, x -> x.water(1, 2, 3));
    }

    private static void quotientsAreCut() {
        Edges.says("Quotients are cut.");
        CellarPump x = new CellarPump();
        x.water(1, 1, 0);
        x.water(4, 3, 0);
        x.set(1, 199);
        Edges.due("199 by 100", x.waterOf(0, 3), 1);
        x.set(1, 100);
        Edges.due("half of 3", x.waterOf(1, 3), 1);
        x.set(1, 99);
        Edges.due("99 by 100", x.waterOf(0, 3), 0);
        x.minutes(1);
        Edges.due("99 less a 50th", x.now(1), 98);
    }

    private static void leastOfSeveral() {
        Edges.says("Sets are told as bits; of several that would do the least number counts, where nothing else is told.");
        CellarPump x = new CellarPump();
        x.current(false);
        x.water(0, 5, 0);
        x.water(0, 5, 0);
        for (int i = 0; i < 3; i++) {
            x.thing(9, 2, 25);
        }
        x.minutes(1);
        Edges.due("came", x.came(), 0);
        x.set(2, 0);
        Edges.due("one of three to lift", x.rescue(0), 1);
        Edges.due("two of three on the shelf", x.shelf(5, 0), 3);
        Edges.due("all of the marks", x.bestOn(1, 9999), 11);
        x.current(true);
        x.set(2, 50);
        Check.sky(x, "wait 2");
        x.cost(0, 0);
        x.cost(1, 0);
        Edges.due("works for nothing that do nothing", x.worth(0, 9999, 0), 4);
        x.build(2);
        Edges.due("which are built", x.count(4), 4);
        Edges.due("none is needed", x.worth(0, 9999, 0), 0);
    }

    private static void rainGroundDeep() {
        Edges.says("RAIN (0 to 99; 0 at first), GROUND (0 to 999; 100 at first), DEEP (how deep water stands, 0 to 9999;"
            + " 0 at first).");
        int[] first = {0, 100, 0};
        int[] most = {99, 999, 9999};
        for (int what = 0; what < 3; what++) {
            int which = what;
            Edges.due("at first", new CellarPump().now(what), first[what]);
            Edges.range("measure " + what, 0, most[what], Edges::lived, (x, v) -> x.set(which, v));
        }
    }

    private static void waters() {
        Edges.says("WATERS 0, 1, .. (at most 8), each with a FLOW (1 to 99), a MARK (0 to 999), of KINDS:");
        CellarPump x = new CellarPump();
        for (int i = 0; i < 8; i++) {
            Edges.due("a water's number", x.water(i % 7, 1, 0), i);
        }
        Edges.due("a ninth", x.water(0, 1, 0), Check.FULL);
        Edges.range("flow", 1, 99, Edges::lived, (y, v) -> y.water(0, v, 0));
        Edges.range("mark", 0, 999, Edges::lived, (y, v) -> y.water(0, 1, v));
        Edges.range("kind", 0, 6, Edges::lived, (y, v) -> y.water(v, 1, 0));
    }

    private static void kinds() {
        Edges.says("0 WATER; 1 GROUND'S, 2 STEPPED, 5 BURST under WATER; 3 BACKED under STEPPED; 4 SEEPED under GROUND'S;"
            + " 6 NEIGHBOUR'S under SEEPED.");
        String[] above = {"0", "01", "02", "023", "014", "05", "0146"};
        CellarPump x = new CellarPump();
        for (int kind = 0; kind < 7; kind++) {
            x.water(kind, 1, 0);
            x.hold(kind, kind);
            for (int asked = 0; asked < 7; asked++) {
                boolean is = above[kind].indexOf('0' + asked) >= 0;
                Edges.due(kind + " as " + asked, x.as(kind, asked), is ? kind : Check.KIND);
            }
        }
    }

    /** What comes of a water of a kind, flow and mark, with such rain and ground. */
    private static int comes(int kind, int flow, int mark, int rain, int ground) {
        return Edges.made(x -> {
            x.water(kind, flow, mark);
            x.set(0, rain);
            x.set(1, ground);
        }).waterOf(0, 3);
    }

    private static void comesOfWater() {
        Edges.says("What COMES of one in a MINUTE: WATER: FLOW.");
        Edges.due("the least", comes(0, 1, 999, 0, 0), 1);
        Edges.due("the most", comes(0, 99, 0, 99, 999), 99);
    }

    private static void comesOfGrounds() {
        Edges.says("GROUND'S: FLOW times GROUND by 100.");
        Edges.due("no ground", comes(1, 99, 0, 99, 0), 0);
        Edges.due("just below one", comes(1, 1, 0, 0, 99), 0);
        Edges.due("just one", comes(1, 1, 0, 0, 100), 1);
        Edges.due("times first, then by 100", comes(1, 50, 0, 0, 3), 1);
        Edges.due("the most", comes(1, 99, 999, 0, 999), 989);
    }

    private static void comesOfStepped() {
        Edges.says("STEPPED: FLOW times what RAIN is more than its MARK (nothing, if it isn't).");
        Edges.due("one more", comes(2, 7, 20, 21, 100), 7);
        Edges.due("as much", comes(2, 7, 20, 20, 100), 0);
        Edges.due("one less", comes(2, 7, 20, 19, 100), 0);
        Edges.due("no rain, the highest mark", comes(2, 99, 999, 0, 100), 0);
        Edges.due("the most", comes(2, 99, 0, 99, 100), 9801);
        Edges.due("no rain, no mark", comes(2, 99, 0, 0, 100), 0);
    }

    private static void comesOfBacked() {
        Edges.says("BACKED: as a STEPPED one, if THE FLAP STICKS (not at first), else nothing.");
        CellarPump x = new CellarPump();
        x.water(3, 7, 20);
        x.set(0, 99);
        Edges.due("not at first", x.waterOf(0, 3), 0);
        x.flap(true);
        Edges.due("79 more", x.waterOf(0, 3), 553);
        x.set(0, 20);
        Edges.due("as much", x.waterOf(0, 3), 0);
        x.set(0, 19);
        Edges.due("one less", x.waterOf(0, 3), 0);
        x.set(0, 21);
        Edges.due("one more", x.waterOf(0, 3), 7);
        x.flap(false);
        Edges.due("it shuts", x.waterOf(0, 3), 0);
    }

    private static void comesOfSeeped() {
        Edges.says("SEEPED: half of a GROUND'S one.");
        Edges.due("half of one", comes(4, 1, 0, 0, 199), 0);
        Edges.due("half of three", comes(4, 3, 0, 0, 100), 1);
        Edges.due("half of the most", comes(4, 99, 0, 0, 999), 494);
    }

    private static void comesOfNeighbours() {
        Edges.says("NEIGHBOUR'S: as a SEEPED one; and FLOW besides, if THE DITCH is there.");
        Edges.due("half of three", comes(6, 3, 0, 0, 100), 1);
        Edges.due("half of the most", comes(6, 99, 0, 0, 999), 494);
        CellarPump x = new CellarPump();
        x.water(6, 3, 0);
        x.set(1, 0);
        Edges.due("nothing", x.waterOf(0, 3), 0);
        x.build(0);
        Edges.due("flow alone", x.waterOf(0, 3), 3);
    }

    private static void comesOfBurst() {
        Edges.says("BURST: FLOW from MINUTE MARK on, else nothing.");
        Edges.due("mark 0: at once", comes(5, 9, 0, 0, 0), 9);
        CellarPump x = new CellarPump();
        x.current(false);
        x.water(5, 9, 999);
        for (int i = 0; i < 4; i++) {
            x.minutes(200);
        }
        x.minutes(198);
        Edges.due("minute 998", x.waterOf(0, 3), 0);
        x.minutes(1);
        Edges.due("minute 999", x.waterOf(0, 3), 9);
        Edges.due("nothing so far", x.now(12), 0);
        x.minutes(2);
        Edges.due("two minutes of it", x.now(12), 18);
    }

    private static void pumpsMeasures() {
        Edges.says("THE PUMP: ON and OFF (marks; OFF below ON; 1 to 999, 0 to 998; 50 and 10 at first), RATE (1 to 99 a"
            + " MINUTE; 20 at first), LIFE (1 to 999 STARTS; 500 at first).");
        int[] first = {50, 10, 20, 500};
        for (int what = 3; what < 7; what++) {
            Edges.due("at first", new CellarPump().now(what), first[what - 3]);
        }
        Edges.range("on, off is 0", 1, 999, x -> x.set(4, 0), (x, v) -> x.set(3, v));
        Edges.range("off, on is 999", 0, 998, x -> x.set(3, 999), (x, v) -> x.set(4, v));
        Edges.refused("on as off", Check.BEYOND, Edges::nothing, x -> x.set(3, 10));
        Edges.due("on just above off", new CellarPump().set(3, 11), 50);
        Edges.refused("off as on", Check.BEYOND, Edges::nothing, x -> x.set(4, 50));
        Edges.due("off just below on", new CellarPump().set(4, 49), 10);
        Edges.range("rate", 1, 99, Edges::lived, (x, v) -> x.set(5, v));
        Edges.range("life", 1, 999, Edges::lived, (x, v) -> x.set(6, v));
        CellarPump x = new CellarPump();
        x.set(2, 1000);
        x.set(5, 1);
        Edges.due("the least rate", x.minutes(1), 999);
        x.set(5, 99);
        Edges.due("the greatest rate", x.minutes(1), 900);
    }

    private static void pumpAtFirst() {
        Edges.says("It RUNS, or not (at first).");
        CellarPump x = new CellarPump();
        Edges.due("not at first", x.now(10), 0);
        x.set(2, 49);
        Edges.due("so below on nothing is pumped", x.minutes(1), 49);
    }

    private static void currentAndBattery() {
        Edges.says("THE CURRENT is there (at first), or not; THE BATTERY has so many MINUTES (0 to 999; 0 at first).");
        Edges.due("current at first", new CellarPump().now(15), 1);
        Edges.due("battery at first", new CellarPump().now(7), 0);
        Edges.range("battery", 0, 999, Edges::lived, (x, v) -> x.set(7, v));
        CellarPump x = new CellarPump();
        x.current(false);
        x.set(2, 100);
        Edges.due("without both nothing is pumped", x.minutes(1), 100);
    }

    /** 60 come and are pumped each minute: a start in each. */
    private static CellarPump startsEachMinute() {
        CellarPump x = new CellarPump();
        x.water(0, 60, 0);
        x.set(5, 60);
        return x;
    }

    private static void dead() {
        Edges.says("It is DEAD with more STARTS than LIFE (by LIFE as it is; one that RUNS as LIFE is told less goes on"
            + " till it stops).");
        CellarPump x = startsEachMinute();
        x.set(6, 3);
        x.minutes(3);
        Edges.due("as many as life", x.now(11), 0);
        x.minutes(1);
        Edges.due("one more", x.now(11), 1);
        x.set(6, 4);
        Edges.due("life is told more", x.now(11), 0);
        x.set(6, 3);
        Edges.due("life is told less", x.now(11), 1);
        CellarPump y = new CellarPump();
        y.set(2, 50);
        y.minutes(2);
        y.set(2, 110);
        y.minutes(1);
        Edges.due("two starts, it runs", y.now(9) * 10 + y.now(10), 21);
        y.set(6, 1);
        Edges.due("dead, it runs", y.now(11) * 10 + y.now(10), 11);
        Edges.due("it goes on", y.minutes(1), 70);
        Edges.due("till it stops", y.minutes(3), 10);
        y.set(2, 200);
        Edges.due("and starts no more", y.minutes(3), 200);
        Edges.due("two starts", y.now(9), 2);
    }

    private static int groundThen(int ground, int rain) {
        return Edges.made(x -> {
            x.set(1, ground);
            x.set(0, rain);
            x.minutes(1);
        }).now(1);
    }

    private static void minuteOfGround() {
        Edges.says("A MINUTE: GROUND becomes more by RAIN, then less by a 50th of that (cut), then 999 at most.");
        Edges.due("nothing", groundThen(0, 0), 0);
        Edges.due("a 50th of 49 is nothing", groundThen(49, 0), 49);
        Edges.due("of 50 one", groundThen(50, 0), 49);
        Edges.due("of 99 one", groundThen(99, 0), 98);
        Edges.due("a 50th of what it is with the rain", groundThen(40, 10), 49);
        Edges.due("1019 less 20", groundThen(999, 20), 999);
        Edges.due("1020 less 20: 999 at most", groundThen(999, 21), 999);
        Edges.due("1018 less 20", groundThen(999, 19), 998);
        Edges.due("the most: only then 999 at most", groundThen(999, 99), 999);
        Edges.due("999 without rain", groundThen(999, 0), 980);
    }

    private static void minuteOfWaters() {
        Edges.says("Then what COMES of all WATERS (by numbers; as RAIN, GROUND are then, MINUTE as it was) comes: DEEP is"
            + " more by that; what is above 9999 RAN OVER.");
        CellarPump x = new CellarPump();
        x.current(false);
        x.water(1, 99, 0);
        x.water(5, 10, 0);
        x.water(5, 20, 1);
        x.set(1, 0);
        x.set(0, 99);
        Edges.due("99 times 98 by 100, and 10", x.minutes(1), 107);
        Edges.due("by the first", x.waterOf(0, 4), 97);
        Edges.due("by the second", x.waterOf(1, 4), 10);
        Edges.due("by the third", x.waterOf(2, 4), 0);
        CellarPump y = new CellarPump();
        y.current(false);
        y.water(0, 10, 0);
        y.water(0, 1, 0);
        y.set(2, 9988);
        Edges.due("just 9999", y.minutes(1), 9999);
        Edges.due("nothing ran over", y.now(14), 0);
        y.set(2, 9989);
        Edges.due("one above", y.minutes(1), 9999);
        Edges.due("one ran over", y.now(14), 1);
        y.minutes(1);
        Edges.due("all of it ran over", y.now(14), 12);
        Edges.due("it came all the same", y.now(12), 33);
        y.current(true);
        Edges.due("over first, then pumped", y.minutes(1), 9979);
        Edges.due("ran over", y.now(14), 23);
        y.set(0, 99);
        for (int i = 0; i < 6; i++) {
            y.water(2, 99, 0);
        }
        Edges.due("six of the most at once", y.minutes(1), 9979);
        Edges.due("ran over", y.now(14), 23 + 9979 + 11 + 6 * 9801 - 9999);
    }

    private static void minuteOfStarting() {
        Edges.says("Then THE PUMP: if it doesn't RUN, isn't DEAD, and DEEP is ON or more, and there is CURRENT or THE"
            + " BATTERY has 1 or more: it STARTS (one START more; with more than LIFE it is DEAD, and doesn't RUN).");
        int[][] cases = {{49, 1, 0, 0}, {50, 1, 0, 1}, {51, 1, 0, 1}, {50, 0, 0, 0}, {50, 0, 1, 1}, {49, 0, 999, 0}};
        for (int[] c : cases) {
            CellarPump x = new CellarPump();
            x.set(2, c[0]);
            x.current(c[1] == 1);
            x.set(7, c[2]);
            Edges.due("deep " + c[0] + ", battery " + c[2], x.minutes(1), c[3] == 1 ? c[0] - 20 : c[0]);
            Edges.due("starts", x.now(9), c[3]);
            Edges.due("runs", x.now(10), c[3]);
        }
        CellarPump x = new CellarPump();
        x.set(2, 200);
        x.minutes(3);
        Edges.due("one that runs doesn't start", x.now(9), 1);
        CellarPump y = startsEachMinute();
        y.set(6, 1);
        Edges.due("the first", y.minutes(1), 0);
        Edges.due("with one more than life it doesn't run", y.minutes(1), 60);
        Edges.due("two starts", y.now(9), 2);
        Edges.due("doesn't run", y.now(10), 0);
        Edges.due("dead", y.now(11), 1);
        y.minutes(5);
        Edges.due("a dead one doesn't start", y.now(9), 2);
    }

    private static void minuteOfRunning() {
        Edges.says("If it RUNS (also since just now): without CURRENT and with nothing in THE BATTERY it doesn't RUN any"
            + " more; else (without CURRENT THE BATTERY is 1 less) RATE is pumped, as far as it is DEEP, and if DEEP is OFF"
            + " or less then, it doesn't RUN any more.");
        CellarPump x = new CellarPump();
        x.current(false);
        x.set(7, 1);
        x.set(2, 90);
        Edges.due("since just now", x.minutes(1), 70);
        Edges.due("battery", x.now(7), 0);
        Edges.due("it runs", x.now(10), 1);
        Edges.due("nothing in the battery", x.minutes(1), 70);
        Edges.due("it doesn't run", x.now(10), 0);
        Edges.due("the battery isn't below 0", x.now(7), 0);
        x.current(true);
        x.set(7, 5);
        x.set(2, 51);
        Edges.due("with current", x.minutes(1), 31);
        Edges.due("the battery stays", x.now(7), 5);
        Edges.due("just above off", x.minutes(1), 11);
        Edges.due("it goes on", x.now(10), 1);
        Edges.due("as far as it is deep", x.minutes(1), 0);
        Edges.due("below off", x.now(10), 0);
        Edges.due("pumped", x.now(13), 20 + 51);
        x.set(2, 50);
        x.minutes(2);
        Edges.due("just off", x.now(2) * 10 + x.now(10), 100);
        x.set(4, 0);
        x.set(3, 1);
        x.set(2, 20);
        x.minutes(1);
        Edges.due("off 0", x.now(2) * 10 + x.now(10), 0);
    }

    private static void minuteCounts() {
        Edges.says("Then MINUTE is one more (0 at first).");
        CellarPump x = new CellarPump();
        Edges.due("at first", x.now(8), 0);
        x.minutes(1);
        Edges.due("one more", x.now(8), 1);
        x.minutes(200);
        Edges.due("200 more", x.now(8), 201);
    }

    private static void log() {
        Edges.says("THE LOG keeps the MINUTES (as they were ahead of that) of the first 40 STARTS.");
        CellarPump x = startsEachMinute();
        x.minutes(39);
        Edges.due("39", x.count(3), 39);
        x.minutes(1);
        Edges.due("40", x.count(3), 40);
        x.minutes(1);
        Edges.due("no more", x.count(3), 40);
        Edges.due("the first", x.start(0), 0);
        Edges.due("the last", x.start(39), 39);
        Edges.due("41 starts", x.now(9), 41);
    }

    private static void things() {
        Edges.says("THINGS 0, 1, .. (at most 10): a WORTH (1 to 99), a WEIGHT (1 to 60 MINUTES to lift it), a HEIGHT (0 to"
            + " 999) at which it stands, LIFTED or not (at first).");
        CellarPump x = new CellarPump();
        for (int i = 0; i < 10; i++) {
            Edges.due("a thing's number", x.thing(1 + i, 1, 0), i);
            Edges.due("not lifted", x.thingOf(i, 3), 0);
            Edges.due("not harmed", x.thingOf(i, 4), 0);
        }
        Edges.due("an eleventh", x.thing(1, 1, 0), Check.FULL);
        Edges.range("worth", 1, 99, Edges::lived, (y, v) -> y.thing(v, 1, 0));
        Edges.range("weight", 1, 60, Edges::lived, (y, v) -> y.thing(1, v, 0));
        Edges.range("height", 0, 999, Edges::lived, (y, v) -> y.thing(1, 1, v));
        CellarPump y = new CellarPump();
        y.thing(1, 60, 999);
        y.lift(0);
        Edges.due("60 minutes to lift it", y.now(8), 60);
    }

    private static void harmed() {
        Edges.says("HARMED is a THING that wasn't LIFTED as DEEP was more than its HEIGHT behind a MINUTE (it stays so).");
        CellarPump x = new CellarPump();
        x.current(false);
        x.thing(1, 1, 0);
        x.thing(1, 1, 999);
        x.thing(1, 1, 0);
        x.lift(2);
        Edges.due("as deep as its height, 0", x.thingOf(0, 4), 0);
        x.set(2, 1);
        Edges.due("not ahead of a minute", x.thingOf(0, 4), 0);
        x.minutes(1);
        Edges.due("1 is more than 0", x.thingOf(0, 4), 1);
        x.set(2, 999);
        x.minutes(1);
        Edges.due("as deep as its height, 999", x.thingOf(1, 4), 0);
        x.set(2, 1000);
        x.minutes(1);
        Edges.due("1000 is more", x.thingOf(1, 4), 1);
        Edges.due("not what is lifted", x.thingOf(2, 4), 0);
        x.set(2, 0);
        x.down(0, 999);
        x.minutes(1);
        Edges.due("it stays so", x.thingOf(0, 4), 1);
        CellarPump y = new CellarPump();
        y.thing(1, 1, 30);
        y.set(2, 50);
        y.minutes(1);
        Edges.due("behind the pump's part of the minute", y.thingOf(0, 4), 0);
    }
}

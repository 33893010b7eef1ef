/** The edges that part 3 of "Terms" names of nights, and promises 24 to 29. */
public final class EdgesOfNightsTest {
    public static void main(String[] args) {
        nightsChangeNothing();
        nightsBeginAsNow();
        trialsBeginAsNow();
        harm();
        ahead();
        aheadRefused();
        under();
        reaches();
        reachesRefused();
        bestOn();
        bestOnRefused();
        rateFor();
        rateForRefused();
        batteryFor();
        batteryForRefused();
        Check.finish();
    }

    private static void nightsChangeNothing() {
        Edges.says("NIGHTS AHEAD begin as things are now; nothing changes by them (but z, where told): n MINUTES go by, or a"
            + " SKY is played.");
        Edges.changesNothing("ahead", Edges::lived, x -> x.ahead(400, 3));
        Edges.changesNothing("under", Edges::lived, x -> x.under(0, 3));
        Edges.changesNothing("reaches", Edges::lived, x -> x.reaches(9998));
        Edges.changesNothing("bestOn", Edges::lived, x -> x.bestOn(200, 9999));
        Edges.changesNothing("rateFor", Edges::lived, x -> x.rateFor(200, 9999));
        Edges.changesNothing("batteryFor", Edges::lived, x -> x.batteryFor(200, 9999));
        Edges.changesNothing("worth", Edges::lived, x -> x.worth(0, 9999, 0));
        Edges.changesNothing("rescue", Edges::lived, x -> x.rescue(2));
        Edges.changesNothing("judge", Edges::lived, x -> x.judge(0));
        Edges.changesNothing("odds, but for z", Edges::lived, x -> {
            int z = x.count(6);
            int often = x.odds(20, 200, 5);
            Check.holds("odds leaves z", x.count(6) != z);
            x.seed(z);
            return often;
        });
    }

    /** What goes by in a night is what would go by, from anything that was there. */
    private static void nightsBeginAsNow() {
        Edges.says("NIGHTS AHEAD begin as things are now;");
        for (int n : new int[] {1, 2, 17, 200}) {
            CellarPump x = Edges.made(Edges::lived);
            CellarPump y = Edges.made(Edges::lived);
            int starts = y.now(9);
            int deep = y.minutes(n);
            Edges.due("deep behind " + n, x.ahead(n, 0), deep);
            Edges.due("starts in " + n, x.ahead(n, 2), y.now(9) - starts);
            Edges.due("harm behind " + n, x.ahead(n, 3), y.harm());
        }
        CellarPump x = Edges.made(Edges::lived);
        CellarPump y = Edges.made(Edges::lived);
        Edges.due("deep behind a sky", x.under(0, 0), y.play(0));
        Edges.due("two nights don't meet", x.under(0, 0), y.now(2));
    }

    /** Each mark, rate and battery that is tried begins as things are now, not as the one tried ahead of it left them. */
    private static void trialsBeginAsNow() {
        Edges.says("NIGHTS AHEAD begin as things are now; nothing changes by them");
        CellarPump x = new CellarPump();
        x.water(0, 5, 0);
        x.set(2, 40);
        Edges.due("rate 5 keeps it at 45", x.rateFor(3, 45), 5);
        Edges.due("a rate for less is none", x.rateFor(3, 44), Check.NONE);
        CellarPump y = new CellarPump();
        y.minutes(4);
        y.water(0, 10, 0);
        y.water(5, 60, 5);
        y.set(2, 30);
        Edges.due("40, then 110 less 20", y.batteryFor(2, 90), 1);
        Edges.due("no battery makes it less", y.batteryFor(2, 89), Check.NONE);
        Edges.due("a rate of 20 does", y.rateFor(2, 90), 20);
        Edges.due("a mark of 40 does: 20, then 90 less 20", y.bestOn(2, 70), 11);
        Edges.due("a mark of 41 is too late", y.bestOn(2, 90), 11);
        CellarPump z = new CellarPump();
        z.water(1, 50, 0);
        z.set(0, 50);
        // The ground is 147, 194, 240 behind one, two, three minutes.
        Edges.due("73 come", z.ahead(1, 1), 73 - 20);
        Edges.due("73, 97, 120 come: 23 of the last are left", z.rateFor(3, 23), 97);
        Edges.due("22 of the last", z.rateFor(3, 22), 98);
    }

    private static void harm() {
        Edges.says("HARM: WORTHS of all THINGS that are HARMED behind it.");
        CellarPump x = new CellarPump();
        x.current(false);
        x.water(0, 1, 0);
        x.thing(1, 1, 3);
        x.thing(2, 1, 4);
        x.thing(4, 1, 5);
        x.thing(8, 1, 1);
        x.lift(3);
        x.minutes(2);
        Edges.due("as deep as its height", x.ahead(0, 3), 0);
        Edges.due("one deeper", x.ahead(1, 3), 1);
        Edges.due("two of them", x.ahead(2, 3), 3);
        Edges.due("not what is lifted", x.ahead(400, 3), 7);
        x.minutes(1);
        Edges.due("those that were harmed ahead of it, too", x.ahead(0, 3), 1);
        x.set(2, 0);
        Edges.due("once", x.ahead(5, 3), 3);
    }

    /** One a minute, and no pump. */
    private static void ones(CellarPump x) {
        x.current(false);
        x.water(0, 1, 0);
    }

    private static void ahead() {
        Edges.says("Behind n MINUTES (0 to 400): what 0 DEEP, 1 the greatest DEEP behind any of them (0 without any), 2 STARTS"
            + " in them, 3 HARM.");
        CellarPump x = Edges.made(EdgesOfNightsTest::ones);
        Edges.due("none", x.ahead(0, 0), 0);
        Edges.due("400", x.ahead(400, 0), 400);
        Edges.due("the greatest is the last", x.ahead(400, 1), 400);
        x.set(2, 5000);
        Edges.due("without any", x.ahead(0, 1), 0);
        Edges.due("deep now", x.ahead(0, 0), 5000);
        Edges.due("no starts", x.ahead(0, 2), 0);
        x.current(true);
        Edges.due("deep now is not behind any", x.ahead(1, 1), 4981);
        Edges.due("the greatest is the first", x.ahead(9, 1), 4981);
        Edges.due("one start", x.ahead(200, 2), 1);
        x.minutes(1);
        Edges.due("not in them", x.ahead(200, 2), 0);
        Edges.due("nor what was deeper ahead of them", x.ahead(1, 1), 4962);
        CellarPump y = new CellarPump();
        y.water(0, 60, 0);
        y.set(5, 60);
        y.set(6, 3);
        Edges.due("the start that makes it dead, too", y.ahead(400, 2), 4);
        y.set(6, 999);
        Edges.due("more than the log has", y.ahead(400, 2), 400);
    }

    private static void aheadRefused() {
        Edges.says("(0 without any), 2 STARTS in them, 3 HARM. BEYOND.");
        Edges.range("n", 0, 400, Edges::lived, (x, v) -> x.ahead(v, 0));
        Edges.range("what", 0, 3, Edges::lived, (x, v) -> x.ahead(1, v));
    }

    private static void under() {
        Edges.says("Behind a SKY: what as of ahead(). BEYOND.");
        Edges.refused("none is there", Check.BEYOND, Edges::nothing, x -> x.under(0, 0));
        Edges.range("sky", 0, 1, Edges::lived, (x, v) -> x.under(v, 0));
        Edges.range("what", 0, 3, Edges::lived, (x, v) -> x.under(0, v));
        CellarPump x = Edges.made(EdgesOfNightsTest::ones);
        Check.sky(x, "bail 5");
        Check.sky(x, "wait 3;bail 2;wait 1");
        x.thing(9, 1, 2);
        x.set(2, 3);
        Edges.due("bailed, 0 at least", x.under(0, 0), 0);
        Edges.due("no minute, nothing greatest", x.under(0, 1), 0);
        Edges.due("no harm without a minute", x.under(0, 3), 0);
        Edges.due("deep", x.under(1, 0), 5);
        Edges.due("the greatest behind a minute", x.under(1, 1), 6);
        Edges.due("harm", x.under(1, 3), 9);
        x.current(true);
        x.set(2, 100);
        Edges.due("starts", x.under(1, 2), 1);
    }

    private static void reaches() {
        Edges.says("Behind how many MINUTES (1 to 400) DEEP is more than so much (0 to 9999) for the first time.");
        CellarPump x = Edges.made(EdgesOfNightsTest::ones);
        Edges.due("more than 0", x.reaches(0), 1);
        Edges.due("more than 1", x.reaches(1), 2);
        Edges.due("in the 400th", x.reaches(399), 400);
        Edges.due("not in 400", x.reaches(400), Check.NONE);
        x.set(2, 9998);
        Edges.due("more than 9998", x.reaches(9998), 1);
        Edges.due("never more than 9999", x.reaches(9999), Check.NONE);
        x.set(2, 100);
        x.current(true);
        x.change(0, 1, 2);
        Edges.due("deep now is behind none", x.reaches(99), Check.NONE);
        Edges.due("for the first time", x.reaches(50), 1);
        x.set(2, 0);
        Edges.due("24 and 25 times 2, just below on", x.reaches(47), 24);
        Edges.due("on is never seen behind a minute", x.reaches(48), Check.NONE);
    }

    private static void reachesRefused() {
        Edges.says("DEEP is more than so much (0 to 9999) for the first time. BEYOND. NONE.");
        for (int deep : new int[] {-1, 10000, Edges.MIN, Edges.MAX}) {
            Edges.refused("deep " + deep, Check.BEYOND, Edges::lived, x -> x.reaches(deep));
        }
        Edges.refused("none", Check.NONE, Edges::lived, x -> x.reaches(9999));
        Edges.refused("dry", Check.NONE, Edges::nothing, x -> x.reaches(0));
    }

    private static void bestOn() {
        Edges.says("The mark ON (above OFF, at most 200) with which THE PUMP STARTS fewest times in n MINUTES (1 to 200), of"
            + " those with which DEEP is never more than most (0 to 9999) behind one of them.");
        CellarPump x = new CellarPump();
        Edges.due("all alike: just above off", x.bestOn(200, 0), 11);
        x.set(4, 0);
        Edges.due("off 0", x.bestOn(1, 9999), 1);
        x.set(3, 999);
        x.set(4, 199);
        Edges.due("200 alone is above off", x.bestOn(200, 0), 200);
        x.set(4, 200);
        Edges.due("201 is none of them", x.bestOn(200, 9999), Check.NONE);
        x.set(4, 998);
        Edges.due("none is above off", x.bestOn(1, 9999), Check.NONE);
        CellarPump y = new CellarPump();
        y.water(0, 50, 0);
        Edges.due("50, then no start in one minute", y.bestOn(1, 9999), 51);
        Edges.due("just as deep as most", y.bestOn(1, 50), 51);
        Edges.due("one less: it must start", y.bestOn(1, 49), 11);
        Edges.due("30 with a start", y.bestOn(1, 30), 11);
        Edges.due("no mark does", y.bestOn(1, 29), Check.NONE);
        y.set(3, 40);
        Edges.due("on as it is doesn't count", y.bestOn(1, 9999), 51);
        Edges.due("four minutes bring 200: a start with each mark", y.bestOn(4, 9999), 11);
        Edges.due("three bring 150", y.bestOn(3, 9999), 151);
        Edges.due("on stays", y.now(3), 40);
        CellarPump z = new CellarPump();
        z.water(0, 99, 0);
        z.water(0, 99, 0);
        z.build(2);
        z.set(5, 99);
        z.set(6, 999);
        z.minutes(200);
        Edges.due("a start in each of 200 minutes ahead of now", z.now(9), 200);
        z.set(3, 190);
        z.set(4, 189);
        Edges.due("a start in each of 200 more with each mark up to 198", z.bestOn(200, 0), 190);
        Edges.due("none with 199 in one minute", z.bestOn(1, 9999), 199);
    }

    private static void bestOnRefused() {
        Edges.says("of those with which DEEP is never more than most (0 to 9999) behind one of them. BEYOND. NONE.");
        Edges.range("n", 1, 200, Edges::lived, (x, v) -> x.bestOn(v, 9999));
        Edges.range("most", 0, 9999, Edges::nothing, (x, v) -> x.bestOn(1, v));
        Edges.refused("none", Check.NONE, Edges::lived, x -> x.bestOn(200, 0));
        Edges.refused("none, and no n", Check.BEYOND, x -> x.set(2, 9999), x -> x.bestOn(201, 0));
    }

    private static void rateFor() {
        Edges.says("The least RATE (1 to 99) with which DEEP is never more than most (0 to 9999) behind any of n MINUTES (1 to"
            + " 200).");
        CellarPump x = new CellarPump();
        Edges.due("dry: the least", x.rateFor(200, 0), 1);
        x.set(2, 1000);
        Edges.due("one a minute", x.rateFor(1, 999), 1);
        Edges.due("99", x.rateFor(1, 901), 99);
        Edges.due("98", x.rateFor(1, 902), 98);
        Edges.due("100 is none of them", x.rateFor(1, 900), Check.NONE);
        Edges.due("as deep as now", x.rateFor(200, 1000), 1);
        Edges.due("behind any: the first counts", x.rateFor(200, 950), 50);
        x.build(2);
        Edges.due("it counts twice", x.rateFor(1, 802), 99);
        Edges.due("not so deep", x.rateFor(1, 801), Check.NONE);
        Edges.due("99 counted twice is more than needed: 50", x.rateFor(1, 901), 50);
        Edges.due("the rate stays", x.now(5), 20);
    }

    private static void rateForRefused() {
        Edges.says("behind any of n MINUTES (1 to 200). BEYOND. NONE.");
        Edges.range("n", 1, 200, Edges::lived, (x, v) -> x.rateFor(v, 9999));
        Edges.range("most", 0, 9999, Edges::nothing, (x, v) -> x.rateFor(1, v));
        Edges.refused("none", Check.NONE, Edges::lived, x -> x.rateFor(1, 0));
        Edges.refused("none, and no n", Check.BEYOND, x -> x.set(2, 9999), x -> x.rateFor(0, 0));
    }

    private static void batteryFor() {
        Edges.says("The least number of MINUTES (0 to 999) of THE BATTERY with which, if there is no CURRENT from now on, DEEP"
            + " is never more than most (0 to 9999) behind any of n (1 to 200) MINUTES.");
        CellarPump x = new CellarPump();
        Edges.due("dry: none is needed", x.batteryFor(200, 0), 0);
        x.water(0, 20, 0);
        x.set(2, 2000);
        x.set(7, 999);
        Edges.due("all of 200", x.batteryFor(200, 2000), 200);
        Edges.due("all but one", x.batteryFor(200, 2020), 199);
        Edges.due("all but 199", x.batteryFor(200, 2000 + 199 * 20), 1);
        Edges.due("none at all", x.batteryFor(200, 2000 + 200 * 20), 0);
        Edges.due("one of one", x.batteryFor(1, 2000), 1);
        Edges.due("none does", x.batteryFor(200, 1999), Check.NONE);
        x.current(false);
        Edges.due("current or not, as it is", x.batteryFor(1, 2000), 1);
        Edges.due("the battery stays", x.now(7), 999);
        Edges.due("the current stays", x.now(15), 0);
        x.set(6, 1);
        x.set(2, 0);
        x.minutes(3);
        x.set(2, 0);
        x.minutes(4);
        Edges.due("dead", x.now(11), 1);
        Edges.due("nothing helps a dead one", x.batteryFor(1, x.now(2)), Check.NONE);
    }

    private static void batteryForRefused() {
        Edges.says("behind any of n (1 to 200) MINUTES. BEYOND. NONE.");
        Edges.range("n", 1, 200, Edges::lived, (x, v) -> x.batteryFor(v, 9999));
        Edges.range("most", 0, 9999, Edges::nothing, (x, v) -> x.batteryFor(1, v));
        Edges.refused("none", Check.NONE, Edges::lived, x -> x.batteryFor(1, 0));
        Edges.refused("none, and no n", Check.BEYOND, x -> x.set(2, 9999), x -> x.batteryFor(0, 0));
    }
}

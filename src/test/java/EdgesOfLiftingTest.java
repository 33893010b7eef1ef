/** The edges that part 3 of "Terms" names of draws, and promises 33 to 36. */
public final class EdgesOfLiftingTest {
    public static void main(String[] args) {
        draws();
        rescueInTime();
        rescueLater();
        rescueOfMost();
        rescueFirst();
        rescueRefused();
        shelf();
        shelfRefused();
        odds();
        oddsOfCurrent();
        oddsRefused();
        seed();
        Check.finish();
    }

    private static int next(int z) {
        return z * 1103515245 + 12345;
    }

    /** The rain of a night by one draw is seen by a stepped water: so much comes in a minute. */
    private static void draws() {
        Edges.says("DRAWS: z is told (1 at first); each makes it z * 1103515245 + 12345 (an int), and gives z >>> 8.");
        Edges.due("at first", new CellarPump().count(6), 1);
        int negative = 0;
        for (int seed : new int[] {1, 0, -1, 2, 3, 4, 5, -77, 12345, Edges.MIN, Edges.MAX, Edges.MIN + 1}) {
            int first = next(seed);
            int rain = (first >>> 8) % 40;
            negative += first < 0 ? 1 : 0;
            CellarPump x = new CellarPump();
            x.current(false);
            x.water(2, 1, 0);
            x.seed(seed);
            Edges.due("not deeper than its rain, seed " + seed, x.odds(1, 1, rain), 0);
            Edges.due("two draws, seed " + seed, x.count(6), next(first));
            x.seed(seed);
            Edges.due("as deep as its rain, seed " + seed, x.odds(1, 1, Math.max(0, rain - 1)), rain > 0 ? 1 : 0);
        }
        Check.holds("draws below 0 and above were seen", negative > 2 && negative < 10);
    }

    /** One a minute, and no pump. */
    private static void ones(CellarPump x) {
        x.current(false);
        x.water(0, 1, 0);
    }

    private static void rescued(String what, CellarPump x, int set, int worth, int first) {
        Edges.due(what + ": set", x.rescue(0), set);
        Edges.due(what + ": worth", x.rescue(1), worth);
        Edges.due(what + ": first", x.rescue(2), first);
    }

    private static void rescueInTime() {
        Edges.says("What to lift, one by one from now on, without a break, THINGS that aren't LIFTED, nor HARMED: those that are"
            + " all LIFTED in time");
        CellarPump x = Edges.made(EdgesOfLiftingTest::ones);
        rescued("no things", x, 0, 0, -1);
        x.thing(5, 10, 10);
        rescued("as deep as its height behind its last minute", x, 1, 5, 0);
        x.down(0, 9);
        rescued("deeper behind its last minute", x, 0, 0, -1);
        x.thing(5, 10, 20);
        x.down(0, 10);
        rescued("one by one", x, 3, 10, 0);
        x.down(1, 19);
        rescued("the second is late: one of them, the least set", x, 1, 5, 0);
        CellarPump y = Edges.made(EdgesOfLiftingTest::ones);
        y.thing(7, 1, 900);
        y.thing(8, 1, 0);
        y.thing(9, 1, 900);
        y.lift(0);
        rescued("neither what is lifted, nor what is harmed", y, 4, 9, 2);
        y.down(1, 900);
        rescued("what is harmed stays so", y, 4, 9, 2);
        y.down(0, 900);
        rescued("what was put down can be lifted", y, 5, 16, 0);
        y.lift(0);
        y.lift(2);
        rescued("all are lifted or harmed", y, 0, 0, -1);
    }

    private static void rescueLater() {
        Edges.says("(a THING is, if DEEP, as nights go ahead for 400 MINUTES from now (what is LIFTED later, too), is never more"
            + " than its HEIGHT behind any MINUTE of those in which it isn't LIFTED yet, up to that behind which it is),");
        CellarPump x = new CellarPump();
        x.current(false);
        for (int i = 0; i < 7; i++) {
            x.thing(1, i == 6 ? 40 : 60, 0);
        }
        x.water(5, 1, 400);
        rescued("dry for 400 minutes, all in 400", x, 127, 7, 0);
        x.change(0, 2, 399);
        rescued("deep behind the 400th: one is late", x, 63, 6, 0);
        x.change(0, 2, 398);
        rescued("deep behind the 399th", x, 63, 6, 0);
        x.change(0, 2, 400);
        x.thing(1, 60, 0);
        rescued("what is lifted behind 460 is in time: deep is looked at for 400", x, 255, 8, 0);
        x.change(0, 2, 399);
        x.down(7, 1);
        rescued("what is lifted later is late by what is deep within 400", x, 191, 7, 0);
        CellarPump y = new CellarPump();
        y.thing(9, 3, 5);
        y.set(2, 45);
        y.water(5, 30, 1);
        rescued("deep now is behind no minute, but stays", y, 0, 0, -1);
        y.set(3, 11);
        y.set(5, 99);
        y.set(2, 99);
        rescued("pumped within the first minute", y, 1, 9, 0);
    }

    private static void rescueOfMost() {
        Edges.says("of the greatest WORTH together: what 0 these, as a set, 1 that WORTH,");
        CellarPump x = Edges.made(EdgesOfLiftingTest::ones);
        x.thing(10, 5, 5);
        x.thing(11, 5, 5);
        rescued("one of them: the greatest worth", x, 2, 11, 1);
        x.thing(11, 5, 5);
        rescued("alike: the least set", x, 2, 11, 1);
        x.thing(6, 2, 5);
        x.thing(5, 3, 5);
        rescued("two small ones are worth as much: the least set", x, 2, 11, 1);
        x.thing(6, 3, 5);
        rescued("two small ones are worth more", x, 40, 12, 3);
        CellarPump y = new CellarPump();
        for (int i = 0; i < 10; i++) {
            y.thing(99, 60, 0);
        }
        rescued("all ten, 600 minutes", y, 1023, 990, 0);
    }

    private static void rescueFirst() {
        Edges.says("2 the first one to lift (-1: none; of the orders in which all are in time that which is least, THING by"
            + " THING).");
        CellarPump x = Edges.made(EdgesOfLiftingTest::ones);
        Edges.due("none", x.rescue(2), -1);
        x.thing(1, 10, 900);
        x.thing(1, 10, 20);
        Edges.due("0 can be first: just in time then", x.rescue(2), 0);
        x.down(1, 19);
        Edges.due("1 must be first", x.rescue(2), 1);
        x.thing(1, 5, 15);
        Edges.due("all are in time", x.rescue(0), 7);
        Edges.due("1, then 2, just in time then, then 0", x.rescue(2), 1);
        x.down(2, 14);
        Edges.due("2, then 1, then 0", x.rescue(2), 2);
        x.down(1, 900);
        x.down(2, 15);
        Edges.due("0, then 2, then 1", x.rescue(2), 0);
        x.down(2, 14);
        Edges.due("2 can't wait", x.rescue(2), 2);
        CellarPump y = Edges.made(EdgesOfLiftingTest::ones);
        y.thing(1, 5, 8);
        y.thing(1, 1, 90);
        y.thing(1, 3, 4);
        rescued("0 ahead makes 2 late, 1 ahead makes 0 late", y, 7, 3, 2);
        y.down(0, 9);
        rescued("1, 2, 0", y, 7, 3, 1);
        y.down(2, 8);
        rescued("0, 2, 1", y, 7, 3, 0);
    }

    private static void rescueRefused() {
        Edges.says("of the orders in which all are in time that which is least, THING by THING). BEYOND.");
        for (int what : new int[] {-1, 3, Edges.MIN, Edges.MAX}) {
            Edges.refused("what " + what, Check.BEYOND, Edges::lived, x -> x.rescue(what));
        }
        for (int what = 0; what < 3; what++) {
            Check.holds("rescue " + what, Edges.made(Edges::lived).rescue(what) >= -1);
        }
    }

    private static void shelf() {
        Edges.says("What goes on the shelf: of all THINGS those of WEIGHTS of at most room (0 to 600) together, of the greatest"
            + " WORTH: what 0 these, as a set, 1 that WORTH.");
        CellarPump x = new CellarPump();
        Edges.due("no things", x.shelf(600, 0), 0);
        Edges.due("no worth", x.shelf(600, 1), 0);
        x.thing(5, 1, 0);
        Edges.due("no room", x.shelf(0, 0), 0);
        Edges.due("just room", x.shelf(1, 0), 1);
        x.thing(5, 1, 0);
        Edges.due("alike: the least set", x.shelf(1, 0), 1);
        Edges.due("both", x.shelf(2, 1), 10);
        x.set(2, 1);
        x.minutes(1);
        x.thing(5, 1, 900);
        x.lift(2);
        Edges.due("of all, harmed and lifted ones too", x.shelf(3, 0), 7);
        CellarPump y = new CellarPump();
        for (int i = 0; i < 10; i++) {
            y.thing(99, 60, 0);
        }
        Edges.due("all the room for all", y.shelf(600, 0), 1023);
        Edges.due("their worth", y.shelf(600, 1), 990);
        Edges.due("one less: all but the last", y.shelf(599, 0), 511);
        Edges.due("their worth", y.shelf(599, 1), 891);
        Edges.due("none", y.shelf(59, 1), 0);
        Edges.due("the first", y.shelf(60, 0), 1);
    }

    private static void shelfRefused() {
        Edges.says("of the greatest WORTH: what 0 these, as a set, 1 that WORTH. BEYOND.");
        Edges.range("room", 0, 600, Edges::lived, (x, v) -> x.shelf(v, 0));
        Edges.range("what", 0, 1, Edges::lived, (x, v) -> x.shelf(5, v));
    }

    private static void odds() {
        Edges.says("n (1 to 20) nights are tried: in each RAIN is the rest of a draw by 40,");
        CellarPump x = new CellarPump();
        x.water(2, 1, 38);
        x.set(0, 99);
        x.current(false);
        int z = 1;
        int due = 0;
        for (int i = 0; i < 400; i++) {
            z = next(z);
            due += (z >>> 8) % 40 == 39 ? 1 : 0;
            z = next(z);
        }
        int often = 0;
        for (int i = 0; i < 20; i++) {
            often += x.odds(20, 1, 0);
        }
        Check.holds("there are nights of the most rain", due > 0);
        Edges.due("of 400 nights those with a rain of 39", often, due);
        Edges.due("two draws each", x.count(6), z);
        Edges.due("never more than 39", x.odds(20, 1, 1), 0);
        Edges.due("the rain stays", x.now(0), 99);
    }

    private static void oddsOfCurrent() {
        Edges.says("and there is no CURRENT, if the rest of one more draw by 4 is 0 (else it is as now); so it goes for t (1 to"
            + " 200) MINUTES: how often DEEP is more than deep (0 to 9999) behind any of them.");
        CellarPump x = new CellarPump();
        x.water(0, 50, 0);
        x.set(5, 50);
        int z = 1;
        int due = 0;
        for (int i = 0; i < 20; i++) {
            z = next(next(z));
            due += (z >>> 8) % 4 == 0 ? 1 : 0;
        }
        Check.holds("there are both kinds of nights", due > 0 && due < 20);
        Edges.due("nights without current", x.odds(20, 1, 0), due);
        x.seed(1);
        Edges.due("as deep as that is not more", x.odds(20, 1, 50), 0);
        x.seed(1);
        Edges.due("more in the second minute", x.odds(20, 2, 50), due);
        x.seed(1);
        Edges.due("200 minutes", x.odds(20, 200, 9998), due);
        Edges.due("never more than 9999", x.odds(20, 200, 9999), 0);
        x.set(7, 1);
        x.seed(1);
        Edges.due("the battery helps for one minute", x.odds(20, 1, 0), 0);
        x.seed(1);
        Edges.due("not for two", x.odds(20, 2, 0), due);
        x.set(7, 0);
        x.current(false);
        Edges.due("no current now: none in any", x.odds(20, 1, 0), 20);
        Edges.due("one night", x.odds(1, 1, 0), 1);
        CellarPump y = new CellarPump();
        y.set(2, 100);
        y.set(5, 99);
        y.seed(1);
        Edges.due("behind any of them, not the last", y.odds(20, 2, 0) - y.odds(20, 1, 0), 0);
        Edges.due("each once", y.odds(20, 9, 0), 20);
    }

    private static void oddsRefused() {
        Edges.says("how often DEEP is more than deep (0 to 9999) behind any of them. BEYOND.");
        Edges.range("n", 1, 20, Edges::lived, (x, v) -> x.odds(v, 1, 0));
        Edges.range("t", 1, 200, Edges::lived, (x, v) -> x.odds(1, v, 0));
        Edges.range("deep", 0, 9999, Edges::lived, (x, v) -> x.odds(1, 1, v));
    }

    private static void seed() {
        Edges.says("z becomes v: what it was.");
        CellarPump x = new CellarPump();
        int was = 1;
        for (int v : new int[] {0, -1, Edges.MAX, Edges.MIN, -1000001, 1}) {
            Edges.due("what it was", x.seed(v), was);
            was = v;
        }
        Edges.due("no finding", x.status(-1), 0);
        x.odds(1, 1, 0);
        Edges.due("what it became by draws", x.seed(0), next(next(1)));
    }
}

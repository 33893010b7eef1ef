/** The edges that part 3 of "Terms" names of works, and promises 30 to 32. */
public final class EdgesOfWorksTest {
    public static void main(String[] args) {
        ditch();
        valve();
        second();
        cells();
        costs();
        cost();
        build();
        worth();
        worthOfBuilt();
        worthOfAllHarmed();
        worthRefused();
        Check.finish();
    }

    private static void ditch() {
        Edges.says("WORKS: 0 DITCH (it is there: each NEIGHBOUR'S one brings FLOW besides; of GROUND'S ones and all under them"
            + " half, cut, COMES of what else would, FLOW besides left whole),");
        CellarPump x = new CellarPump();
        for (int kind = 0; kind < 7; kind++) {
            x.water(kind, 7, 0);
        }
        x.water(6, 1, 0);
        x.set(0, 3);
        x.flap(true);
        int[] without = {7, 7, 21, 21, 3, 7, 3, 0};
        int[] with = {7, 3, 21, 21, 1, 7, 8, 1};
        for (int water = 0; water < 8; water++) {
            Edges.due("without it, " + water, x.waterOf(water, 3), without[water]);
        }
        x.build(0);
        for (int water = 0; water < 8; water++) {
            Edges.due("with it, " + water, x.waterOf(water, 3), with[water]);
        }
        x.set(1, 0);
        Edges.due("no ground", x.waterOf(1, 3) + x.waterOf(4, 3), 0);
        Edges.due("flow besides", x.waterOf(6, 3), 7);
        x.set(1, 999);
        // 7 times 999 by 100 is 69, its half 34, the half of that 17.
        Edges.due("the most ground", x.waterOf(1, 3), 34);
        Edges.due("the most ground, seeped", x.waterOf(4, 3), 17);
        Edges.due("the most ground, next door", x.waterOf(6, 3), 24);
        x.change(1, 1, 2);
        x.set(1, 100);
        Edges.due("half of just 2", x.waterOf(1, 3), 1);
        x.set(1, 99);
        Edges.due("half of just 1", x.waterOf(1, 3), 0);
        x.change(1, 1, 7);
        x.set(1, 100);
        x.set(0, 0);
        x.current(false);
        // The ground is 98 then: 6, of it 3, of that 1.
        Edges.due("so it comes", x.minutes(1), 7 + 3 + 0 + 0 + 1 + 7 + (1 + 7) + (0 + 1));
    }

    private static void valve() {
        Edges.says("1 VALVE (THE FLAP never STICKS),");
        CellarPump x = new CellarPump();
        x.water(3, 9, 0);
        x.set(0, 5);
        x.flap(true);
        Edges.due("it sticks", x.waterOf(0, 3), 45);
        x.build(1);
        Edges.due("not any more", x.now(16), 0);
        Edges.due("nothing comes", x.waterOf(0, 3), 0);
        Edges.due("it can't", x.flap(true), Check.STATE);
        Check.sky(x, "flap sticks;wait 1");
        Edges.due("nor in a night", x.under(0, 0), 0);
        Edges.due("nor by a sky", x.play(0), 0);
        Edges.due("never", x.now(16), 0);
    }

    private static void second() {
        Edges.says("2 SECOND (RATE counts twice),");
        CellarPump x = new CellarPump();
        x.build(2);
        x.set(2, 1000);
        Edges.due("twice 20", x.minutes(1), 960);
        Edges.due("the rate is told once", x.now(5), 20);
        x.set(5, 99);
        Edges.due("twice 99", x.minutes(1), 762);
        x.set(5, 1);
        Edges.due("twice 1", x.minutes(1), 760);
        Edges.due("pumped", x.now(13), 240);
        x.set(5, 99);
        x.set(2, 197);
        Edges.due("as far as it is deep", x.minutes(1), 0);
        Edges.due("pumped", x.now(13), 437);
    }

    private static void cells() {
        Edges.says("3 CELLS (THE BATTERY has 240 MINUTES more, 999 at most, as it is built).");
        int[][] cases = {{0, 240}, {1, 241}, {758, 998}, {759, 999}, {760, 999}, {999, 999}};
        for (int[] c : cases) {
            CellarPump x = new CellarPump();
            x.set(7, c[0]);
            x.build(3);
            Edges.due("from " + c[0], x.now(7), c[1]);
            x.set(7, 5);
            Edges.due("as it is built alone", x.now(7), 5);
        }
    }

    private static void costs() {
        Edges.says("Each has a COST (0 to 999; 100 at first), and is built, or not (at first).");
        CellarPump x = new CellarPump();
        Edges.due("none at first", x.count(4), 0);
        for (int work = 0; work < 4; work++) {
            Edges.due("at first", x.cost(work, 999), 100);
            int which = work;
            Edges.range("cost of " + work, 0, 999, Edges::nothing, (y, v) -> y.cost(which, v));
        }
    }

    private static void cost() {
        Edges.says("COST of a WORK becomes v: what it was. BEYOND.");
        Edges.range("work", 0, 3, Edges::lived, (x, v) -> x.cost(v, 5));
        Edges.range("v", 0, 999, Edges::lived, (x, v) -> x.cost(3, v));
        CellarPump x = new CellarPump();
        x.build(2);
        Edges.due("of one that is built, too", x.cost(2, 999), 100);
        Edges.due("what it was", x.cost(2, 0), 999);
        Edges.due("and then", x.cost(2, 1), 0);
        Edges.due("another stays", x.cost(3, 1), 100);
    }

    private static void build() {
        Edges.says("A WORK is built: which are, as a set. BEYOND. STATE: it is.");
        CellarPump x = new CellarPump();
        Edges.due("3", x.build(3), 8);
        Edges.due("0", x.build(0), 9);
        Edges.due("2", x.build(2), 13);
        Edges.due("1", x.build(1), 15);
        Edges.refused("it is", Check.STATE, Edges::lived, y -> y.build(3));
        for (int work : new int[] {-1, 4, Edges.MIN, Edges.MAX, 32, 35}) {
            Edges.refused("work " + work, Check.BEYOND, Edges::lived, y -> y.build(work));
        }
        for (int work = 0; work < 4; work++) {
            int which = work;
            Edges.refused("it is, " + work, Check.STATE, y -> y.build(which), y -> y.build(which));
        }
        Edges.due("its cost doesn't count", Edges.made(y -> y.cost(1, 999)).build(1), 2);
    }

    /** 20 a minute without current: cells help; with 20 of the ground besides, cells and the ditch or the second. */
    private static void night(CellarPump x) {
        x.water(0, 20, 0);
        x.thing(60, 1, 120);
        Check.sky(x, "current off;wait 10");
    }

    private static void worth() {
        Edges.says("The WORKS (not built yet) to build for so much COST (0 to 9999) together at most, so that HARM behind a SKY"
            + " is least; of such those of least COST: what 0 these, as a set, 1 HARM then.");
        CellarPump x = Edges.made(EdgesOfWorksTest::night);
        Edges.due("one coin less than it costs", x.worth(0, 99, 0), 0);
        Edges.due("harm", x.worth(0, 99, 1), 60);
        Edges.due("just what it costs", x.worth(0, 100, 0), 8);
        Edges.due("no harm", x.worth(0, 100, 1), 0);
        Edges.due("all the coin", x.worth(0, 9999, 0), 8);
        x.cost(3, 0);
        Edges.due("for nothing", x.worth(0, 0, 0), 8);
        x.cost(0, 0);
        x.cost(1, 0);
        x.cost(2, 0);
        Edges.due("all for nothing: the least set", x.worth(0, 0, 0), 8);
        x.water(1, 20, 0);
        Edges.due("two together", x.worth(0, 0, 0), 9);
        x.cost(0, 999);
        x.cost(2, 999);
        x.cost(3, 999);
        Edges.due("one less than both cost", x.worth(0, 1997, 1), 60);
        Edges.due("nothing then", x.worth(0, 1997, 0), 0);
        Edges.due("both", x.worth(0, 1998, 0), 9);
        x.cost(2, 998);
        Edges.due("second and cells cost less", x.worth(0, 9999, 0), 12);
        x.cost(2, 999);
        Edges.due("alike: the least set", x.worth(0, 9999, 0), 9);
        x.down(0, 999);
        Edges.due("no harm, nothing to build", x.worth(0, 9999, 0), 0);
        x.down(0, 0);
        Edges.due("nothing helps", x.worth(0, 9999, 0), 0);
        Edges.due("harm then", x.worth(0, 9999, 1), 60);
    }

    private static void worthOfBuilt() {
        Edges.says("The WORKS (not built yet) to build");
        CellarPump x = Edges.made(EdgesOfWorksTest::night);
        x.build(3);
        Edges.due("it is built", x.worth(0, 9999, 0), 0);
        Edges.due("no harm for nothing", x.worth(0, 0, 1), 0);
        x.water(1, 20, 0);
        Edges.due("the other alone", x.worth(0, 100, 0), 1);
        Edges.due("its cost alone", x.worth(0, 99, 0), 0);
        Edges.due("which are built", x.count(4), 8);
        x.set(7, 0);
        Edges.due("cells are not built again", x.worth(0, 9999, 1), 60);
        x.build(0);
        x.build(1);
        x.build(2);
        Edges.due("all are built", x.worth(0, 9999, 0), 0);
    }

    private static void worthOfAllHarmed() {
        Edges.says("so that HARM behind a SKY is least; of such those of least COST");
        CellarPump x = new CellarPump();
        x.water(0, 99, 0);
        for (int i = 0; i < 10; i++) {
            x.thing(99, 1, 0);
        }
        for (int work = 0; work < 4; work++) {
            x.cost(work, 999);
        }
        Check.sky(x, "wait 9");
        Edges.due("all is harmed", x.worth(0, 9999, 1), 990);
        Edges.due("nothing helps", x.worth(0, 9999, 0), 0);
        x.down(9, 999);
        Edges.due("all but one", x.worth(0, 9999, 1), 891);
    }

    private static void worthRefused() {
        Edges.says("what 0 these, as a set, 1 HARM then. BEYOND.");
        Edges.refused("no sky", Check.BEYOND, Edges::nothing, x -> x.worth(0, 0, 0));
        Edges.range("sky", 0, 1, Edges::lived, (x, v) -> x.worth(v, 0, 0));
        Edges.range("coin", 0, 9999, Edges::lived, (x, v) -> x.worth(0, v, 0));
        Edges.range("what", 0, 1, Edges::lived, (x, v) -> x.worth(0, 0, v));
    }
}

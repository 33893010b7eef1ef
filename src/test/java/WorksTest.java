/** Promises 30 to 32: works, and which of them for so much coin. */
public final class WorksTest {
    private static final int[] COSTS = {50, 120, 80, 60};

    public static void main(String[] args) {
        cost();
        build();
        cells();
        worthRefused();
        worthOfEach();
        worthTies();
        worthOfSeveral();
        worthOfMost();
        Check.finish();
    }

    private static void cost() {
        CellarPump x = new CellarPump();
        for (int work = 0; work < 4; work++) {
            Check.due("at first", x.cost(work, 0), 100);
            Check.due("the least", x.cost(work, 999), 0);
            Check.due("the most", x.cost(work, work), 999);
        }
        Check.due("above", x.cost(0, 1000), Check.BEYOND);
        Check.due("below", x.cost(0, -1), Check.BEYOND);
        Check.due("no such work", x.cost(4, 5), Check.BEYOND);
        Check.due("no such work", x.cost(-1, 5), Check.BEYOND);
        for (int work = 0; work < 4; work++) {
            Check.due("it stays", x.cost(work, 7), work);
        }
    }

    private static void build() {
        CellarPump x = new CellarPump();
        Check.due("no such work", x.build(4), Check.BEYOND);
        Check.due("no such work", x.build(-1), Check.BEYOND);
        Check.due("the second", x.build(2), 4);
        Check.due("it is there", x.build(2), Check.STATE);
        Check.due("the ditch", x.build(0), 5);
        Check.due("the cells", x.build(3), 13);
        Check.due("the valve", x.build(1), 15);
        Check.due("all", x.count(4), 15);
        for (int work = 0; work < 4; work++) {
            Check.due("it is there", x.build(work), Check.STATE);
        }
    }

    private static void cells() {
        CellarPump x = new CellarPump();
        x.set(7, 7);
        x.build(3);
        Check.due("240 more", x.now(7), 247);
        CellarPump y = new CellarPump();
        y.set(7, 760);
        y.build(3);
        Check.due("999 at most", y.now(7), 999);
        y.set(7, 3);
        Check.due("as it is built alone", y.now(7), 3);
    }

    private static void worthRefused() {
        CellarPump x = new CellarPump();
        Check.due("no sky", x.worth(0, 0, 0), Check.BEYOND);
        Check.sky(x, "wait 5");
        int[][] wrong = {{1, 0, 0}, {-1, 0, 0}, {0, -1, 0}, {0, 10000, 0}, {0, 0, 2}, {0, 0, -1}};
        for (int[] w : wrong) {
            Check.due("worth " + w[0] + " " + w[1] + " " + w[2], x.worth(w[0], w[1], w[2]), Check.BEYOND);
        }
        Check.due("nothing to harm", x.worth(0, 9999, 0), 0);
        Check.due("no harm", x.worth(0, 9999, 1), 0);
    }

    /** Each work is what helps against one kind of night. */
    private static void worthOfEach() {
        String[] night = {"wait 10", "flap sticks;rain 20;wait 10", "wait 10", "current off;wait 10"};
        int[][] water = {{1, 30, 0}, {3, 4, 10}, {0, 30, 0}, {0, 20, 0}};
        for (int work = 0; work < 4; work++) {
            CellarPump x = new CellarPump();
            x.water(water[work][0], water[work][1], water[work][2]);
            x.thing(60, 1, 60);
            Check.sky(x, night[work]);
            x.cost(work, 70);
            Check.due("too little coin, " + work, x.worth(0, 69, 0), 0);
            Check.due("harm then, " + work, x.worth(0, 69, 1), 60);
            Check.due("just enough, " + work, x.worth(0, 70, 0), 1 << work);
            Check.due("no harm then, " + work, x.worth(0, 70, 1), 0);
            Check.due("nothing is built by that", x.count(4), 0);
            x.build(work);
            Check.due("what is built isn't built again, " + work, x.worth(0, 9999, 0), 0);
            Check.due("and helps, " + work, x.worth(0, 0, 1), 0);
        }
    }

    private static void worthTies() {
        CellarPump x = new CellarPump();
        x.water(1, 30, 0);
        x.thing(60, 1, 60);
        Check.sky(x, "wait 10");
        Check.due("ditch or second: of like cost the least number", x.worth(0, 9999, 0), 1);
        x.cost(2, 99);
        Check.due("of least cost", x.worth(0, 9999, 0), 4);
        x.cost(2, 100);
        x.cost(0, 0);
        Check.due("for nothing", x.worth(0, 0, 0), 1);
        x.cost(1, 0);
        Check.due("not the valve besides, for nothing too", x.worth(0, 9999, 0), 1);
        x.down(0, 999);
        Check.due("nothing, if there is no harm", x.worth(0, 9999, 0), 0);
    }

    private static void worthOfMost() {
        CellarPump x = new CellarPump();
        x.water(0, 99, 0);
        for (int i = 0; i < 10; i++) {
            x.thing(99, 1, 0);
        }
        for (int work = 0; work < 4; work++) {
            x.cost(work, 999);
        }
        Check.sky(x, "wait 9");
        Check.due("all is harmed", x.worth(0, 9999, 1), 990);
        Check.due("nothing helps", x.worth(0, 9999, 0), 0);
    }

    private static CellarPump neighbours() {
        CellarPump x = new CellarPump();
        x.water(6, 40, 0);
        x.water(3, 3, 10);
        x.thing(30, 1, 200);
        x.thing(50, 1, 90);
        x.thing(20, 1, 5);
        Check.sky(x, "flap sticks;rain 30;wait 20;current off;wait 10");
        for (int work = 0; work < 4; work++) {
            x.cost(work, COSTS[work]);
        }
        return x;
    }

    /** Each set of works is tried by hand: built, played, and taken back. */
    private static void worthOfSeveral() {
        for (int coin = 0; coin <= 320; coin += 10) {
            CellarPump x = neighbours();
            int best = 0;
            int leastHarm = 9999;
            int leastCost = 9999;
            for (int set = 0; set < 16; set++) {
                x.image();
                int cost = 0;
                for (int work = 0; work < 4; work++) {
                    if ((set & 1 << work) != 0) {
                        cost += COSTS[work];
                        x.build(work);
                    }
                }
                x.play(0);
                int harm = x.harm();
                if (cost <= coin && (harm < leastHarm || harm == leastHarm && cost < leastCost)) {
                    best = set;
                    leastHarm = harm;
                    leastCost = cost;
                }
                x.undo();
            }
            Check.due("works for " + coin, x.worth(0, coin, 0), best);
            Check.due("harm for " + coin, x.worth(0, coin, 1), leastHarm);
        }
    }
}

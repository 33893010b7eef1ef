/** What the tests of edges share: the sentence that is looked at, calls that are refused, and ranges. */
final class Edges {
    static final int MIN = Integer.MIN_VALUE;
    static final int MAX = Integer.MAX_VALUE;

    /** What is done to an object first. */
    interface Setup {
        void on(CellarPump x);
    }

    interface Act {
        int on(CellarPump x);
    }

    interface ActWith {
        int on(CellarPump x, int v);
    }

    private static String sentence = "";

    private Edges() {
    }

    /** The words of the document that the checks behind it are for: SentencesTest looks for them there. */
    static void says(String words) {
        sentence = words;
    }

    static void due(String what, long got, long want) {
        Check.due('"' + sentence + "\" " + what, got, want);
    }

    /** An object that the setup has been done to. */
    static CellarPump made(Setup setup) {
        CellarPump x = new CellarPump();
        setup.on(x);
        return x;
    }

    /** The act answers the finding, which is counted once; all else is as on a twin that was not asked. */
    static void refused(String what, int finding, Setup setup, Act act) {
        CellarPump x = made(setup);
        CellarPump twin = made(setup);
        due(what, act.on(x), finding);
        for (int which = -1; which < 7; which++) {
            boolean isCounted = which == -1 || which == -1000001 - finding;
            due(what + ", status " + which, x.status(which), twin.status(which) + (isCounted ? 1 : 0));
        }
        String is = tellAll(x);
        String was = tellAll(twin);
        Check.holds('"' + sentence + "\" " + what + " changed what was\n  " + was + "\n  " + is, is.equals(was));
    }

    /** A value just below, just above or far beyond is refused, the least and the most are not. */
    static void range(String what, int least, int most, Setup setup, ActWith act) {
        for (int v : new int[] {least - 1, most + 1, MIN, MAX}) {
            refused(what + " " + v, Check.BEYOND, setup, x -> act.on(x, v));
        }
        for (int v : new int[] {least, most}) {
            boolean isTaken = act.on(made(setup), v) > -1000000;
            Check.holds('"' + sentence + "\" " + what + " " + v + " was refused", isTaken);
        }
    }

    /** The twin is asked the same but for the act: all that can be told of both is alike. */
    static void changesNothing(String what, Setup setup, Act act) {
        CellarPump x = made(setup);
        CellarPump twin = made(setup);
        act.on(x);
        String is = tellAll(x);
        String was = tellAll(twin);
        Check.holds('"' + sentence + "\" " + what + " changed what was\n  " + was + "\n  " + is, is.equals(was));
    }

    static void nothing(CellarPump x) {
    }

    /** Something of everything: a refused call would have much to upset. */
    static void lived(CellarPump x) {
        x.water(0, 5, 0);
        x.water(1, 8, 2);
        x.water(5, 9, 4);
        x.thing(5, 2, 700);
        x.thing(6, 2, 1);
        x.thing(7, 3, 800);
        int[] measures = {3, 200, 0, 15, 4, 11, 77, 99};
        for (int what : new int[] {0, 1, 2, 4, 3, 5, 6, 7}) {
            x.set(what, measures[what]);
        }
        x.flap(true);
        x.hold(3, 1);
        x.seed(55);
        x.cost(2, 321);
        x.build(3);
        Check.sky(x, "wait 4;rain 8");
        x.minutes(9);
        x.lift(0);
        x.current(false);
        x.image();
        x.minutes(3);
        Check.sky(x, "current on;wait 2");
        x.sheet(0, 8, 3);
        x.write(0, 1, 7);
        x.sheet(1, 16, 2);
        x.write(1, 0, 99);
        x.sheet(2, 8, 0);
        Check.feed(x, "wait 9;rain 4");
    }

    /** All that can be told of an object but for its findings; the object is used up by that. */
    private static String tellAll(CellarPump x) {
        StringBuilder all = new StringBuilder();
        tellKept(x, all);
        for (int s = 0; s < 4; s++) {
            // The ground tells which rain a sheet brought.
            all.append(x.judge(s)).append(' ').append(x.load(s)).append(' ');
            all.append(x.now(0)).append(' ').append(x.now(1)).append(' ').append(x.now(2)).append(' ');
            for (int t = 0; t < s; t++) {
                all.append(x.copy(s, 0, t, 0, 0)).append(' ');
            }
        }
        all.append("tape ").append(x.count(5)).append(' ').append(x.sky()).append(' ').append(x.skyOf(2, 1));
        all.append(" kept ").append(x.undo()).append(' ');
        tellKept(x, all);
        return all.toString();
    }

    private static void tellKept(CellarPump x, StringBuilder all) {
        for (int what = 0; what < 17; what++) {
            all.append(x.now(what)).append(' ');
        }
        for (int what = 0; what < 8; what++) {
            all.append(what == 5 ? 0 : x.count(what)).append(' ');
        }
        for (int i = 0; i < x.count(0); i++) {
            for (int what = 0; what < 5; what++) {
                all.append(x.waterOf(i, what)).append(' ');
            }
        }
        for (int i = 0; i < x.count(1); i++) {
            for (int what = 0; what < 5; what++) {
                all.append(x.thingOf(i, what)).append(' ');
            }
        }
        for (int i = 0; i < x.count(2); i++) {
            all.append(x.skyOf(i, 0)).append(' ').append(x.skyOf(i, 1)).append(' ').append(x.under(i, 0)).append(' ');
        }
        for (int i = 0; i < x.count(3); i += 3) {
            all.append(x.start(i)).append(' ');
        }
        for (int spot = 0; spot < 10; spot++) {
            all.append(x.as(spot, 0)).append(' ');
        }
        for (int work = 0; work < 4; work++) {
            int cost = x.cost(work, 0);
            x.cost(work, cost);
            all.append(cost).append(' ');
        }
        all.append(x.ahead(50, 0)).append(' ').append(x.ahead(50, 2)).append(' ');
    }
}

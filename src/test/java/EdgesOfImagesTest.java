/** The edges that promises 1 and 44 to 48 name: a new object, images, counts, status. */
public final class EdgesOfImagesTest {
    public static void main(String[] args) {
        newObject();
        image();
        imageLeavesOut();
        undo();
        undoOfFull();
        tear();
        count();
        countRefused();
        status();
        statusRefused();
        Check.finish();
    }

    private static void newObject() {
        Edges.says("All as at first; no WATERS, THINGS, SKIES; THE TAPE is empty, no image is kept.");
        CellarPump x = new CellarPump();
        int[] first = {0, 100, 0, 50, 10, 20, 500, 0, 0, 0, 0, 0, 0, 0, 0, 1, 0};
        for (int what = 0; what < 17; what++) {
            Edges.due("now " + what, x.now(what), first[what]);
        }
        int[] counts = {0, 0, 0, 0, 0, 0, 1, 0};
        for (int what = 0; what < 8; what++) {
            Edges.due("count " + what, x.count(what), counts[what]);
        }
        for (int which = -1; which < 7; which++) {
            Edges.due("status " + which, x.status(which), 0);
        }
        Edges.due("no image", x.tear(), 0);
        Edges.due("no image", x.undo(), Check.NONE);
        for (int work = 0; work < 4; work++) {
            Edges.due("cost", x.cost(work, 5), 100);
        }
        Edges.due("no harm", x.harm(), 0);
        Edges.due("no starts", x.renew(), 0);
        CellarPump y = Edges.made(Edges::lived);
        y.now(-1);
        Edges.due("another object's waters", new CellarPump().count(0), 0);
        Edges.due("another object's findings", new CellarPump().status(-1), 0);
    }

    private static void image() {
        Edges.says("All but THE TAPE and SHEETS is kept: 1.");
        Edges.due("of a new object", new CellarPump().image(), 1);
        CellarPump x = Edges.made(Edges::lived);
        Edges.due("one more", x.image(), 1);
        int[] now = new int[17];
        for (int what = 0; what < 17; what++) {
            now[what] = x.now(what);
        }
        int[] counts = new int[8];
        for (int what = 0; what < 8; what++) {
            counts[what] = x.count(what);
        }
        upset(x);
        x.undo();
        for (int what = 0; what < 17; what++) {
            Edges.due("now " + what, x.now(what), now[what]);
        }
        for (int what = 0; what < 8; what++) {
            Edges.due("count " + what, x.count(what), what == 5 ? 0 : counts[what]);
        }
        Edges.due("a spot", x.as(3, 1), 1);
        Edges.due("an empty spot", x.as(9, 0), Check.MISSING);
        Edges.due("a cost", x.cost(2, 0), 321);
        Edges.due("a flow", x.waterOf(0, 1), 5);
        Edges.due("a mark", x.waterOf(2, 2), 4);
        Edges.due("a height", x.thingOf(2, 2), 800);
        Edges.due("a lifted one", x.thingOf(0, 3), 1);
        Edges.due("a harmed one", x.thingOf(1, 4), 1);
        Edges.due("one that isn't", x.thingOf(2, 4), 0);
        Edges.due("a sky", x.skyOf(0, 1), 4);
        CellarPump y = new CellarPump();
        y.minutes(3);
        y.water(0, 60, 0);
        y.minutes(1);
        y.image();
        y.minutes(9);
        y.renew();
        y.minutes(9);
        Edges.due("another start", y.start(0), 13);
        y.undo();
        Edges.due("a start of the log", y.start(0), 3);
        Edges.due("no other", y.start(1), Check.BEYOND);
        Edges.due("what a water brought", y.waterOf(0, 4), 60);
    }

    /** Changes all that can be changed, and empties the tape. */
    private static void upset(CellarPump x) {
        x.renew();
        x.current(true);
        x.flap(false);
        x.water(0, 99, 0);
        x.change(0, 1, 77);
        x.change(2, 2, 0);
        x.thing(1, 1, 1);
        x.down(0, 1);
        x.down(2, 0);
        x.hold(3, 0);
        x.hold(9, 0);
        x.seed(-1);
        x.cost(2, 1);
        x.build(0);
        x.build(1);
        x.build(2);
        x.sky();
        x.play(2);
        x.minutes(50);
        int[] measures = {9, 9, 9, 99, 98, 9, 9, 9};
        for (int what = 0; what < 8; what++) {
            x.set(what, measures[what]);
        }
    }

    private static void imageLeavesOut() {
        Edges.says("All but THE TAPE and SHEETS is kept");
        CellarPump x = new CellarPump();
        Check.feed(x, "rain");
        x.sheet(0, 8, 2);
        x.write(0, 0, 5);
        x.sheet(1, 8, 1);
        x.image();
        Check.feed(x, " 7");
        x.write(0, 0, 6);
        x.sheet(1, 0, 0);
        x.sheet(2, 32, 3);
        x.undo();
        Edges.due("the tape", x.count(5), 6);
        Edges.due("a sheet made since then", x.judge(2), 0);
        Edges.due("a sheet that is missing since then", x.judge(1), Check.MISSING);
        x.current(false);
        x.set(2, 6);
        Edges.due("a number written since then", x.judge(0), 2);
        Edges.due("the text as it is", x.sky(), 0);
        x.undo();
        Edges.due("the sky is taken back", x.count(2), 0);
        Edges.due("the tape stays empty", x.count(5), 0);
    }

    private static void undo() {
        Edges.says("It becomes what was kept latest (which stays): MINUTE. NONE: nothing is kept.");
        Edges.refused("nothing is kept", Check.NONE, Edges::nothing, CellarPump::undo);
        Edges.refused("it was torn", Check.NONE, x -> {
            Edges.lived(x);
            x.tear();
        }, CellarPump::undo);
        CellarPump x = new CellarPump();
        x.image();
        x.minutes(5);
        Edges.due("minute 0", x.undo(), 0);
        x.minutes(7);
        x.image();
        x.minutes(1);
        x.image();
        x.minutes(200);
        Edges.due("the latest", x.undo(), 8);
        x.minutes(3);
        Edges.due("it stays", x.undo(), 8);
        Edges.due("nothing since then", x.undo(), 8);
        Edges.due("something is kept", x.tear(), 1);
    }

    /** With all places taken behind the image, there is room again, and what is new is as new. */
    private static void undoOfFull() {
        Edges.says("It becomes what was kept latest (which stays)");
        CellarPump x = new CellarPump();
        x.image();
        for (int i = 0; i < 10; i++) {
            x.water(0, 9, 0);
            x.thing(9, 1, 0);
            x.lift(i);
        }
        for (int i = 0; i < 6; i++) {
            Check.sky(x, "wait 9;wait 9;wait 9");
        }
        Edges.due("no room", x.water(0, 1, 0) - x.thing(1, 1, 1), 0);
        x.undo();
        Edges.due("a first water", x.water(1, 1, 0), 0);
        Edges.due("brought nothing", x.waterOf(0, 4), 0);
        Edges.due("a first thing", x.thing(1, 1, 999), 0);
        Edges.due("not lifted", x.thingOf(0, 3), 0);
        Edges.due("not harmed", x.thingOf(0, 4), 0);
        Edges.due("a first sky", Check.sky(x, "wait 1"), 0);
        Edges.due("of one minute", x.skyOf(0, 1), 1);
        Edges.due("no starts", x.count(3), 0);
    }

    private static void tear() {
        Edges.says("Nothing is kept: 1 if something was, else 0.");
        CellarPump x = new CellarPump();
        Edges.due("nothing was", x.tear(), 0);
        x.image();
        x.image();
        x.minutes(2);
        Edges.due("something was", x.tear(), 1);
        Edges.due("all of it", x.tear(), 0);
        Edges.due("nothing to go back to", x.undo(), Check.NONE);
        Edges.due("what is stays", x.now(8), 2);
        x.image();
        Edges.due("kept again", x.undo(), 2);
    }

    private static void count() {
        Edges.says("0 WATERS, 1 THINGS, 2 SKIES, 3 STARTS of THE LOG, 4 WORKS that are built (as a set), 5 bytes of THE TAPE, 6"
            + " z, 7 THINGS that are LIFTED.");
        CellarPump x = new CellarPump();
        for (int i = 0; i < 12; i++) {
            x.water(0, 10, 0);
            x.thing(1, 1, 999);
            x.lift(i);
        }
        for (int i = 0; i < 7; i++) {
            Check.sky(x, "wait 1");
        }
        Check.feed(x, "#".repeat(94));
        for (int work = 0; work < 4; work++) {
            x.build(work);
        }
        x.set(5, 40);
        x.set(6, 999);
        x.set(2, 0);
        x.minutes(100);
        x.seed(Edges.MIN);
        int[] due = {8, 10, 6, 40, 15, 100, Edges.MIN, 10};
        for (int what = 0; what < 8; what++) {
            Edges.due("the most of " + what, x.count(what), due[what]);
        }
        Check.holds("there were more starts", x.now(9) > 40);
        x.down(3, 5);
        Edges.due("one less is lifted", x.count(7), 9);
        x.renew();
        Edges.due("no starts", x.count(3), 0);
        Edges.due("things stay", x.count(1), 10);
    }

    private static void countRefused() {
        Edges.says("6 z, 7 THINGS that are LIFTED. BEYOND: another what.");
        Edges.range("what", 0, 7, Edges::lived, CellarPump::count);
    }

    private static void status() {
        Edges.says("How many acts answered a finding ever (undo() takes none back): which -1: all, 0 to 6: BEYOND to SIZE.");
        CellarPump x = new CellarPump();
        x.image();
        Check.feed(x, "#".repeat(100));
        x.water(0, 1, 0);
        x.hold(0, 0);
        x.build(0);
        for (int round = 1; round <= 2; round++) {
            x.now(-1);
            x.feed(0, 1);
            x.as(0, 6);
            x.quickest();
            x.build(0);
            x.load(2);
            x.sheet(2, 8, -1);
            for (int which = 0; which < 7; which++) {
                Edges.due("status " + which, x.status(which), round);
            }
            Edges.due("all", x.status(-1), 7 * round);
        }
        x.undo();
        Edges.due("none is taken back", x.status(-1), 14);
        Edges.due("a fault is none", x.sky(), -1);
        Edges.due("none to lift is none", x.rescue(2), -1);
        Edges.due("still", x.status(-1), 14);
        x.tear();
        Edges.due("nor by tearing", x.status(0), 2);
    }

    private static void statusRefused() {
        Edges.says("0 to 6: BEYOND to SIZE. BEYOND (counted from then on): another one.");
        for (int which : new int[] {-2, 7, Edges.MIN, Edges.MAX}) {
            Edges.refused("which " + which, Check.BEYOND, Edges::lived, x -> x.status(which));
            CellarPump x = new CellarPump();
            Edges.due("which " + which, x.status(which), Check.BEYOND);
            Edges.due("counted from then on", x.status(0), 1);
            Edges.due("of all", x.status(-1), 1);
        }
    }
}

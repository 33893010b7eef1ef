/** Promises 1 and 44 to 48: a new object, images, counts, status. */
public final class ImagesTest {
    public static void main(String[] args) {
        newObject();
        objectsAreApart();
        imageKeepsAll();
        tapeAndSheetsAreNotKept();
        undoLatest();
        undoOfMade();
        tear();
        count();
        status();
        statusIsNotTakenBack();
        findingsChangeNothing();
        Check.finish();
    }

    private static void newObject() {
        CellarPump x = new CellarPump();
        int[] counts = {0, 0, 0, 0, 0, 0, 1, 0};
        for (int what = 0; what < 8; what++) {
            Check.due("count " + what, x.count(what), counts[what]);
        }
        int[] first = {0, 100, 0, 50, 10, 20, 500, 0, 0, 0, 0, 0, 0, 0, 0, 1, 0};
        for (int what = 0; what < first.length; what++) {
            Check.due("now " + what, x.now(what), first[what]);
        }
        Check.due("no findings", x.status(-1), 0);
        Check.due("no image", x.tear(), 0);
        Check.due("no image", x.undo(), Check.NONE);
        for (int spot = 0; spot < 10; spot++) {
            Check.due("an empty spot", x.as(spot, 0), Check.MISSING);
        }
        for (int s = 0; s < 4; s++) {
            Check.due("a missing sheet", x.load(s), Check.MISSING);
        }
    }

    private static void objectsAreApart() {
        CellarPump x = new CellarPump();
        CellarPump y = new CellarPump();
        fill(x);
        newObject();
        Check.due("no waters", y.count(0), 0);
        Check.due("no costs", y.cost(0, 1), 100);
        Check.due("no clock", y.now(8), 0);
    }

    private static void fill(CellarPump x) {
        x.water(1, 8, 2);
        x.water(0, 7, 3);
        x.thing(5, 6, 700);
        x.thing(6, 2, 1);
        x.set(4, 4);
        x.set(3, 15);
        x.set(5, 11);
        x.set(6, 77);
        x.set(7, 99);
        x.set(0, 3);
        x.flap(true);
        x.hold(3, 1);
        x.seed(55);
        x.cost(2, 321);
        x.build(3);
        Check.sky(x, "wait 4;rain 8");
        x.minutes(30);
        x.lift(0);
        x.current(false);
        x.set(2, 1234);
    }

    /** All that can be told of an object, but for the tape, the sheets and the findings. */
    private static String tellAll(CellarPump x) {
        StringBuilder all = new StringBuilder();
        for (int what = 0; what < 17; what++) {
            all.append(x.now(what)).append(' ');
        }
        for (int what = 0; what < 8; what++) {
            all.append(what == 5 ? 0 : x.count(what)).append(' ');
        }
        for (int i = 0; i < x.count(0); i++) {
            for (int what = 0; what < 5; what++) {
                all.append(x.waterOf(i, what)).append(' ');
            }
        }
        for (int i = 0; i < x.count(1); i++) {
            for (int what = 0; what < 5; what++) {
                all.append(x.thingOf(i, what)).append(' ');
            }
        }
        for (int i = 0; i < x.count(2); i++) {
            all.append(x.skyOf(i, 0)).append(' ').append(x.skyOf(i, 1)).append(' ').append(x.under(i, 0)).append(' ');
        }
        for (int i = 0; i < x.count(3); i++) {
            all.append(x.start(i)).append(' ');
        }
        for (int spot = 0; spot < 10; spot++) {
            all.append(x.as(spot, 0)).append(' ');
        }
        for (int work = 0; work < 4; work++) {
            int cost = x.cost(work, 0);
            x.cost(work, cost);
            all.append(cost).append(' ');
        }
        return all.append(x.ahead(50, 0)).toString();
    }

    private static void upset(CellarPump x) {
        x.renew();
        x.current(true);
        x.flap(false);
        x.water(5, 9, 9);
        x.change(0, 1, 55);
        x.change(1, 2, 55);
        x.thing(9, 9, 9);
        x.down(0, 300);
        x.hold(3, 2);
        x.hold(0, 0);
        x.seed(-9);
        x.cost(2, 5);
        x.build(0);
        x.build(1);
        x.build(2);
        Check.sky(x, "wait 60;rain 8;battery 3");
        x.play(1);
        x.minutes(100);
        for (int what = 0; what < 8; what++) {
            x.set(what, 43 - what * 5);
        }
    }

    private static void imageKeepsAll() {
        CellarPump x = new CellarPump();
        fill(x);
        String was = tellAll(x);
        Check.due("kept", x.image(), 1);
        Check.holds("nothing changes by that", tellAll(x).equals(was));
        upset(x);
        Check.holds("all is changed", !tellAll(x).equals(was));
        Check.due("undone: the clock", x.undo(), 36);
        String is = tellAll(x);
        Check.holds("all is as it was\n" + was + "\n" + is, is.equals(was));
        upset(x);
        Check.due("it stays", x.undo(), 36);
        Check.holds("all is as it was, again", tellAll(x).equals(was));
        Check.due("the flap may stick", x.flap(true), 1);
        Check.due("the ditch can be built", x.build(0), 9);
    }

    private static void tapeAndSheetsAreNotKept() {
        CellarPump x = new CellarPump();
        x.feed(0x72616969, 3);
        x.sheet(0, 8, 1);
        x.image();
        x.feed(0x6E352020, 4);
        x.sheet(1, 8, 1);
        x.write(0, 0, 5);
        x.undo();
        Check.due("seven bytes", x.count(5), 7);
        Check.due("the sheet is there", x.judge(1), 0);
        Check.due("what was written stays", x.judge(0), 1);
        x.wipe();
        x.sheet(0, 0, 0);
        x.undo();
        Check.due("empty", x.count(5), 0);
        Check.due("missing", x.judge(0), Check.MISSING);
    }

    private static void undoLatest() {
        CellarPump x = new CellarPump();
        x.minutes(3);
        x.image();
        x.minutes(4);
        x.image();
        x.minutes(5);
        Check.due("the latest", x.undo(), 7);
        Check.due("and again", x.undo(), 7);
        Check.due("torn", x.tear(), 1);
        Check.due("all are gone", x.undo(), Check.NONE);
        Check.due("the clock stays", x.now(8), 7);
    }

    /** What was made behind the image is gone, and what is made then begins anew. */
    private static void undoOfMade() {
        CellarPump x = new CellarPump();
        x.image();
        x.water(0, 60, 0);
        x.thing(9, 1, 0);
        x.thing(9, 1, 900);
        x.lift(1);
        x.minutes(9);
        Check.sky(x, "wait 5");
        x.undo();
        Check.due("no waters", x.count(0), 0);
        Check.due("no lifted ones", x.count(7), 0);
        x.water(0, 5, 0);
        Check.due("it brought nothing", x.waterOf(0, 4), 0);
        x.thing(3, 1, 500);
        x.thing(3, 1, 500);
        Check.due("not harmed", x.thingOf(0, 4), 0);
        Check.due("not lifted", x.thingOf(1, 3), 0);
        Check.due("a first sky", Check.sky(x, "rain 9"), 0);
        Check.due("without minutes", x.skyOf(0, 1), 0);
    }

    private static void tear() {
        CellarPump x = new CellarPump();
        Check.due("nothing", x.tear(), 0);
        x.image();
        Check.due("something", x.tear(), 1);
        Check.due("nothing any more", x.tear(), 0);
        x.image();
        Check.due("kept again", x.undo(), 0);
    }

    private static void count() {
        CellarPump x = new CellarPump();
        fill(x);
        x.feed(0, 3);
        int[] due = {2, 2, 1, x.now(9), 8, 3, 55, 1};
        for (int what = 0; what < 8; what++) {
            Check.due("count " + what, x.count(what), due[what]);
        }
        Check.holds("there were starts", x.now(9) > 0);
        Check.due("another what", x.count(8), Check.BEYOND);
        Check.due("another what", x.count(-1), Check.BEYOND);
    }

    private static void status() {
        CellarPump x = new CellarPump();
        x.water(0, 1, 0);
        x.hold(0, 0);
        x.build(0);
        for (int i = 0; i < 25; i++) {
            x.feed(0, 4);
        }
        Check.due("none", x.status(-1), 0);
        x.now(-1);
        x.now(99);
        for (int i = 0; i < 3; i++) {
            x.feed(0, 1);
        }
        for (int i = 0; i < 4; i++) {
            x.as(0, 1);
        }
        for (int i = 0; i < 5; i++) {
            x.undo();
        }
        for (int i = 0; i < 6; i++) {
            x.build(0);
        }
        for (int i = 0; i < 7; i++) {
            x.judge(0);
        }
        for (int i = 0; i < 8; i++) {
            x.sheet(0, 8, -1);
        }
        for (int which = 0; which < 7; which++) {
            Check.due("status " + which, x.status(which), which + 2);
        }
        Check.due("all", x.status(-1), 35);
        Check.due("another one", x.status(7), Check.BEYOND);
        Check.due("counted from then on", x.status(0), 3);
        Check.due("another one", x.status(-2), Check.BEYOND);
        Check.due("counted from then on", x.status(-1), 37);
    }

    private static void statusIsNotTakenBack() {
        CellarPump x = new CellarPump();
        x.image();
        x.now(-1);
        x.undo();
        Check.due("it stays", x.status(0), 1);
    }

    private static void findingsChangeNothing() {
        CellarPump x = new CellarPump();
        fill(x);
        x.image();
        String was = tellAll(x);
        int[] wrong = {Integer.MIN_VALUE, -2, 10000, Integer.MAX_VALUE};
        for (int v : wrong) {
            x.water(v, v, v);
            x.waterOf(v, v);
            x.change(v, v, v);
            x.change(0, 1, v);
            x.set(0, v);
            x.set(v, 1);
            x.minutes(v);
            x.start(v);
            x.thing(1, 1, v);
            x.lift(v);
            x.lift(0);
            x.down(0, v);
            x.down(v, 0);
            x.play(v);
            x.cost(0, v);
            x.build(v);
            x.build(3);
            x.odds(1, v, 0);
            x.hold(0, v);
            x.hold(v, 0);
            x.load(v);
            x.sheet(0, v, 1);
        }
        Check.holds("a finding changes nothing", tellAll(x).equals(was));
    }
}

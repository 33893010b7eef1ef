/** The edges that promises 14 to 18 name: things that are lifted, put down, harmed. */
public final class EdgesOfThingsTest {
    public static void main(String[] args) {
        thing();
        thingOf();
        lift();
        liftRefused();
        down();
        harm();
        Check.finish();
    }

    private static void tenThings(CellarPump x) {
        for (int i = 0; i < 10; i++) {
            x.thing(1 + i, 10 + i, 20 + i);
        }
    }

    private static void thing() {
        Edges.says("A new THING: its number. BEYOND. FULL.");
        Edges.range("worth", 1, 99, Edges::nothing, (x, v) -> x.thing(v, 60, 999));
        Edges.range("weight", 1, 60, Edges::nothing, (x, v) -> x.thing(99, v, 999));
        Edges.range("height", 0, 999, Edges::nothing, (x, v) -> x.thing(99, 60, v));
        Edges.refused("an eleventh", Check.FULL, EdgesOfThingsTest::tenThings, x -> x.thing(1, 1, 0));
        Edges.refused("an eleventh of no worth", Check.BEYOND, EdgesOfThingsTest::tenThings, x -> x.thing(0, 1, 0));
        Edges.refused("an eleventh of no weight", Check.BEYOND, EdgesOfThingsTest::tenThings, x -> x.thing(1, 0, 0));
        Edges.refused("an eleventh of no height", Check.BEYOND, EdgesOfThingsTest::tenThings, x -> x.thing(1, 1, -1));
        CellarPump x = Edges.made(EdgesOfThingsTest::tenThings);
        Edges.due("the tenth is there", x.thingOf(9, 0), 10);
    }

    private static void thingOf() {
        Edges.says("Of a THING: what 0 WORTH, 1 WEIGHT, 2 HEIGHT, 3 1 if it is LIFTED, 4 1 if it is HARMED, else 0. BEYOND.");
        Edges.refused("none is there", Check.BEYOND, Edges::nothing, x -> x.thingOf(0, 0));
        Edges.range("thing", 0, 2, Edges::lived, (x, v) -> x.thingOf(v, 0));
        Edges.range("what", 0, 4, Edges::lived, (x, v) -> x.thingOf(0, v));
        CellarPump x = Edges.made(EdgesOfThingsTest::tenThings);
        x.set(2, 29);
        x.lift(9);
        int[] due = {10, 19, 29, 1, 0};
        for (int what = 0; what < 5; what++) {
            Edges.due("what " + what, x.thingOf(9, what), due[what]);
            Edges.due("of the one ahead of it", x.thingOf(8, what), new int[] {9, 18, 28, 0, 1}[what]);
        }
    }

    private static void lift() {
        Edges.says("A THING is LIFTED: WEIGHT MINUTES go by first (it is LIFTED behind them, also if it becomes HARMED in"
            + " them): DEEP then.");
        CellarPump x = new CellarPump();
        x.current(false);
        x.water(0, 1, 0);
        x.thing(1, 60, 60);
        x.thing(1, 1, 61);
        x.thing(1, 5, 65);
        Edges.due("60 minutes", x.lift(0), 60);
        Edges.due("as deep as its height behind the last", x.thingOf(0, 4), 0);
        Edges.due("one minute", x.lift(1), 61);
        Edges.due("not harmed", x.thingOf(1, 4), 0);
        Edges.due("five minutes", x.lift(2), 66);
        Edges.due("harmed behind the last", x.thingOf(2, 4), 1);
        Edges.due("lifted all the same", x.thingOf(2, 3), 1);
        x.minutes(200);
        Edges.due("what is lifted isn't harmed any more", x.harm(), 1);
        Edges.due("three are", x.count(7), 3);
        CellarPump y = new CellarPump();
        y.thing(1, 9, 0);
        y.set(2, 1);
        y.lift(0);
        Edges.due("harmed behind the first, lifted behind the last", y.thingOf(0, 3) * 10 + y.thingOf(0, 4), 11);
    }

    private static void liftRefused() {
        Edges.says("DEEP then. BEYOND. STATE: it is LIFTED, or HARMED.");
        Edges.refused("none is there", Check.BEYOND, Edges::nothing, x -> x.lift(0));
        for (int thing : new int[] {-1, 3, Edges.MIN, Edges.MAX, 32, 34}) {
            Edges.refused("thing " + thing, Check.BEYOND, Edges::lived, x -> x.lift(thing));
        }
        Edges.refused("it is lifted", Check.STATE, Edges::lived, x -> x.lift(0));
        Edges.refused("it is harmed", Check.STATE, Edges::lived, x -> x.lift(1));
        Edges.refused("it is both", Check.STATE, x -> {
            x.thing(1, 1, 0);
            x.set(2, 1);
            x.lift(0);
        }, x -> x.lift(0));
        Edges.refused("it was harmed, and put down", Check.STATE, x -> {
            Edges.lived(x);
            x.down(1, 999);
        }, x -> x.lift(1));
        CellarPump x = Edges.made(Edges::lived);
        x.down(0, 999);
        Check.holds("what was put down can be lifted", x.lift(0) >= 0);
        Check.holds("what is neither can be lifted", x.lift(2) >= 0);
    }

    private static void down() {
        Edges.says("A THING is put down, at a HEIGHT (0 to 999), and isn't LIFTED any more: 1 if it was, else 0. BEYOND.");
        Edges.refused("none is there", Check.BEYOND, Edges::nothing, x -> x.down(0, 0));
        Edges.range("thing", 0, 2, Edges::lived, (x, v) -> x.down(v, 0));
        Edges.range("height", 0, 999, Edges::lived, (x, v) -> x.down(0, v));
        CellarPump x = Edges.made(Edges::lived);
        Edges.due("it was", x.down(0, 999), 1);
        Edges.due("it isn't", x.thingOf(0, 3), 0);
        Edges.due("its height", x.thingOf(0, 2), 999);
        Edges.due("it wasn't", x.down(0, 0), 0);
        Edges.due("its height", x.thingOf(0, 2), 0);
        Edges.due("a harmed one wasn't", x.down(1, 999), 0);
        Edges.due("it stays harmed", x.thingOf(1, 4), 1);
        Edges.due("the third stays", x.thingOf(2, 2), 800);
        x.set(2, 5);
        x.minutes(1);
        Edges.due("what was put down can be harmed", x.thingOf(0, 4), 1);
    }

    private static void harm() {
        Edges.says("WORTHS of all THINGS that are HARMED.");
        Edges.due("no things", new CellarPump().harm(), 0);
        CellarPump x = new CellarPump();
        for (int i = 0; i < 10; i++) {
            x.thing(99, 1, 9);
        }
        Edges.due("none is harmed", x.harm(), 0);
        x.set(2, 10);
        x.minutes(1);
        Edges.due("all ten", x.harm(), 990);
        x.down(0, 999);
        Edges.due("they stay", x.harm(), 990);
    }
}

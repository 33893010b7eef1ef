/** Promises 14 to 18: things that stand at heights, are lifted, harmed. */
public final class ThingsTest {
    public static void main(String[] args) {
        thing();
        thingOf();
        harmed();
        lift();
        liftHarmedOnTheWay();
        liftSeveral();
        down();
        harm();
        Check.finish();
    }

    private static void thing() {
        CellarPump x = new CellarPump();
        int[][] wrong = {{0, 1, 0}, {100, 1, 0}, {1, 0, 0}, {1, 61, 0}, {1, 1, -1}, {1, 1, 1000},
            {Integer.MAX_VALUE, 1, 1}, {1, Integer.MIN_VALUE, 1}};
        for (int[] w : wrong) {
            Check.due("thing " + w[0] + " " + w[1] + " " + w[2], x.thing(w[0], w[1], w[2]), Check.BEYOND);
        }
        Check.due("none was made", x.count(1), 0);
        for (int i = 0; i < 10; i++) {
            Check.due("thing " + i, x.thing(i == 0 ? 1 : 99, i == 0 ? 1 : 60, i == 0 ? 0 : 999), i);
        }
        Check.due("an eleventh", x.thing(1, 1, 1), Check.FULL);
        Check.due("an eleventh, wrong", x.thing(0, 1, 1), Check.BEYOND);
        Check.due("ten stay", x.count(1), 10);
    }

    private static void thingOf() {
        CellarPump x = new CellarPump();
        x.thing(7, 8, 9);
        int[] due = {7, 8, 9, 0, 0};
        for (int what = 0; what < 5; what++) {
            Check.due("what " + what, x.thingOf(0, what), due[what]);
        }
        Check.due("no such what", x.thingOf(0, 5), Check.BEYOND);
        Check.due("no such what", x.thingOf(0, -1), Check.BEYOND);
        Check.due("no such thing", x.thingOf(1, 0), Check.BEYOND);
        Check.due("no such thing", x.thingOf(-1, 0), Check.BEYOND);
    }

    private static void harmed() {
        CellarPump x = new CellarPump();
        x.current(false);
        x.thing(3, 1, 20);
        x.thing(5, 1, 19);
        x.set(2, 20);
        Check.due("not ahead of a minute", x.thingOf(1, 4), 0);
        x.minutes(1);
        Check.due("as deep as its height does no harm", x.thingOf(0, 4), 0);
        Check.due("deeper does", x.thingOf(1, 4), 1);
        x.set(2, 0);
        x.minutes(1);
        Check.due("it stays so", x.thingOf(1, 4), 1);
        x.current(true);
        x.set(2, 50);
        x.set(5, 30);
        x.minutes(1);
        Check.due("what counts is deep behind the pump", x.thingOf(0, 4), 0);
    }

    private static void lift() {
        CellarPump x = new CellarPump();
        x.water(0, 1, 0);
        x.thing(3, 4, 20);
        x.thing(3, 60, 5);
        Check.due("no such thing", x.lift(2), Check.BEYOND);
        Check.due("no such thing", x.lift(-1), Check.BEYOND);
        Check.due("lifted, four minutes", x.lift(0), 4);
        Check.due("the clock", x.now(8), 4);
        Check.due("it is lifted", x.thingOf(0, 3), 1);
        Check.due("the other isn't", x.thingOf(1, 3), 0);
        Check.due("one is", x.count(7), 1);
        Check.due("it is lifted already", x.lift(0), Check.STATE);
        Check.due("no minute went", x.now(8), 4);
        x.minutes(40);
        Check.due("no harm to what is lifted", x.thingOf(0, 4), 0);
        Check.due("harm to the other", x.thingOf(1, 4), 1);
        Check.due("what is harmed isn't lifted", x.lift(1), Check.STATE);
    }

    private static void liftHarmedOnTheWay() {
        CellarPump x = new CellarPump();
        x.water(0, 1, 0);
        x.thing(3, 4, 3);
        x.thing(3, 4, 8);
        Check.due("lifted", x.lift(0), 4);
        Check.due("harmed behind the last of its minutes", x.thingOf(0, 4), 1);
        Check.due("lifted all the same", x.thingOf(0, 3), 1);
        Check.due("lifted in time", x.lift(1), 8);
        Check.due("not harmed", x.thingOf(1, 4), 0);
    }

    private static void liftSeveral() {
        CellarPump x = new CellarPump();
        for (int i = 0; i < 10; i++) {
            x.thing(1, 1, 500);
        }
        for (int i = 0; i < 10; i++) {
            x.lift(i);
            Check.due("lifted", x.count(7), i + 1);
        }
        for (int i = 0; i < 10; i++) {
            Check.due("it is", x.thingOf(i, 3), 1);
        }
        x.down(4, 5);
        Check.due("all but one", x.count(7), 9);
        Check.due("that one", x.thingOf(4, 3), 0);
    }

    private static void down() {
        CellarPump x = new CellarPump();
        x.thing(3, 1, 20);
        Check.due("it wasn't lifted", x.down(0, 30), 0);
        Check.due("its height", x.thingOf(0, 2), 30);
        x.lift(0);
        Check.due("it was lifted", x.down(0, 999), 1);
        Check.due("it isn't", x.thingOf(0, 3), 0);
        Check.due("its height", x.thingOf(0, 2), 999);
        Check.due("the floor", x.down(0, 0), 0);
        Check.due("below", x.down(0, -1), Check.BEYOND);
        Check.due("above", x.down(0, 1000), Check.BEYOND);
        Check.due("no such thing", x.down(1, 5), Check.BEYOND);
        Check.due("no such thing", x.down(-1, 5), Check.BEYOND);
        Check.due("its height stays", x.thingOf(0, 2), 0);
        x.set(2, 1);
        x.minutes(1);
        Check.due("it can be harmed again", x.thingOf(0, 4), 1);
        x.down(0, 500);
        Check.due("and stays so", x.thingOf(0, 4), 1);
    }

    private static void harm() {
        CellarPump x = new CellarPump();
        Check.due("no things", x.harm(), 0);
        x.thing(40, 1, 5);
        x.thing(7, 1, 6);
        x.thing(99, 1, 30);
        x.set(2, 8);
        Check.due("not yet", x.harm(), 0);
        x.minutes(1);
        Check.due("two of them", x.harm(), 47);
    }
}

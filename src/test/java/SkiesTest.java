/** Promises 19 to 23: the tape, and skies from texts. */
public final class SkiesTest {
    public static void main(String[] args) {
        feed();
        feedOrder();
        wipe();
        texts();
        faults();
        twelveDeeds();
        hundredBytes();
        nothingIsLeftBehind();
        fullSkies();
        skyOf();
        play();
        playEachDeed();
        Check.finish();
    }

    private static void feed() {
        CellarPump x = new CellarPump();
        Check.due("n 0", x.feed(65, 0), Check.BEYOND);
        Check.due("n 5", x.feed(65, 5), Check.BEYOND);
        Check.due("n below 0", x.feed(65, Integer.MIN_VALUE), Check.BEYOND);
        Check.due("n much above", x.feed(65, Integer.MAX_VALUE), Check.BEYOND);
        Check.due("three", x.feed(-1, 3), 3);
        for (int i = 0; i < 24; i++) {
            x.feed(0, 4);
        }
        Check.due("99", x.count(5), 99);
        Check.due("two more", x.feed(0, 2), Check.FULL);
        Check.due("two more, wrong n", x.feed(0, 5), Check.BEYOND);
        Check.due("99 still", x.count(5), 99);
        Check.due("one more", x.feed(0, 1), 100);
        Check.due("and one", x.feed(0, 1), Check.FULL);
    }

    private static void feedOrder() {
        CellarPump x = new CellarPump();
        // Highest first; of 0x7A726169 the lowest three bytes are "rai".
        Check.due("rai", x.feed(0x7A726169, 3), 3);
        Check.due("n 42", x.feed(0x6E203432, 4), 7);
        Check.due("it reads", x.sky(), 0);
        x.play(0);
        Check.due("42", x.now(0), 42);
    }

    private static void wipe() {
        CellarPump x = new CellarPump();
        Check.due("empty", x.wipe(), 0);
        x.feed(0, 4);
        x.feed(0, 1);
        Check.due("five", x.wipe(), 5);
        Check.due("empty again", x.count(5), 0);
        Check.due("it reads from its begin", Check.sky(x, "rain 1"), 0);
    }

    private static void reads(String text, int deeds, int minutes) {
        CellarPump x = new CellarPump();
        Check.due("'" + text + "'", Check.sky(x, text), 0);
        Check.due("'" + text + "' deeds", x.skyOf(0, 0), deeds);
        Check.due("'" + text + "' minutes", x.skyOf(0, 1), minutes);
        Check.due("'" + text + "' the tape is empty", x.count(5), 0);
        Check.due("'" + text + "' one sky", x.count(2), 1);
    }

    private static void texts() {
        reads("rain 0", 1, 0);
        reads("rain 99", 1, 0);
        reads("wait 1", 1, 1);
        reads("wait 60", 1, 60);
        reads("wait60;wait1", 2, 61);
        reads("  wait   7  ;  wait 8  ", 2, 15);
        reads("current on;current off", 2, 0);
        reads("flap sticks;flap shuts", 2, 0);
        reads("battery 0;battery 999", 2, 0);
        reads("bail 0;bail 999;wait 00000000000000000000000000012", 3, 12);
    }

    private static void fails(String text, int fault) {
        CellarPump x = new CellarPump();
        Check.due("'" + text + "'", Check.sky(x, text), -1 - fault);
        Check.due("'" + text + "' the tape is empty", x.count(5), 0);
        Check.due("'" + text + "' no sky", x.count(2), 0);
        Check.due("'" + text + "' no finding", x.status(-1), 0);
    }

    private static void faults() {
        fails("", 0);
        fails("   ", 3);
        fails("rain", 4);
        fails("rain ", 5);
        fails("rain 100", 5);
        fails("rain 1000", 5);
        fails("rain 4294967297", 5);
        fails("rain 18446744073709551617", 5);
        fails("wait 0", 5);
        fails("wait 61", 5);
        fails("battery 1000", 8);
        fails("bail 1000", 5);
        fails("bail  -1", 6);
        fails("rain on", 5);
        fails("rain;", 4);
        fails("current", 7);
        fails("current 1", 8);
        fails("current sticks", 8);
        fails("flap on", 5);
        fails("flap shut", 5);
        fails("flap shutss", 5);
        fails("flapsticks", 0);
        fails("Rain 5", 0);
        fails("rAin 5", 0);
        fails("snow 5", 0);
        fails("rains 5", 0);
        fails("rai 5", 0);
        fails("main 5", 0);
        fails("raim 5", 0);
        fails("current in", 8);
        fails(" 5", 1);
        fails(";", 0);
        fails("rain 5;", 7);
        fails("rain 5; ", 8);
        fails("rain 5;;rain 5", 7);
        fails("rain 5 rain 5", 7);
        fails("rain 5rain 5", 6);
        fails("rain 5 5", 7);
        fails("rain 5.", 6);
        fails("rain\t5", 4);
        fails("rain 5;on", 7);
        fails("rain" + (char) 225 + "5", 4);
        fails("rain 5" + (char) 0, 6);
        fails("rain `", 5);
        fails("rain {", 5);
        fails("rain /", 5);
        fails("rain :", 5);
    }

    private static String waits(int n) {
        StringBuilder text = new StringBuilder();
        for (int i = 0; i < n; i++) {
            text.append(i == 0 ? "" : ";").append("wait 5");
        }
        return text.toString();
    }

    private static void twelveDeeds() {
        reads(waits(12), 12, 60);
        fails(waits(13), 84);
        fails(waits(12) + ";", 84);
        fails(waits(12) + ";  ", 86);
        fails(waits(12) + ";  snow", 86);
        fails(waits(12) + ";;", 84);
        fails(waits(12) + " 7", 84);
        fails(waits(12) + "#", 83);
    }

    private static String blanks(int n) {
        return " ".repeat(n);
    }

    private static void hundredBytes() {
        reads(blanks(94) + "rain 5", 1, 0);
        reads("wait 5" + blanks(94), 1, 5);
        reads(blanks(89) + "current off", 1, 0);
        fails(blanks(100), 100);
        fails(blanks(99) + ";", 99);
        fails(blanks(96) + "rain", 100);
        fails(blanks(96) + "snow", 96);
    }

    /** Bytes and deeds of earlier texts are no part of later ones. */
    private static void nothingIsLeftBehind() {
        CellarPump x = new CellarPump();
        Check.due("with a fault", Check.sky(x, "wait 5;wait 55;wait 9;snow"), -23);
        Check.due("wait 5 alone", Check.sky(x, "wait 5"), 0);
        Check.due("one deed", x.skyOf(0, 0), 1);
        Check.due("five minutes", x.skyOf(0, 1), 5);
        x.play(0);
        Check.due("five went", x.now(8), 5);
        Check.sky(x, waits(12));
        Check.sky(x, "wait 50");
        Check.due("twelve deeds, not the next one's", x.skyOf(1, 1), 60);
        x.play(1);
        Check.due("sixty went", x.now(8), 65);
        Check.sky(x, "rain 7      9");
        Check.due("a blank was ahead of 9", Check.sky(x, "rain 7"), 3);
        Check.sky(x, "flap shutss");
        Check.due("a letter was behind it", Check.sky(x, "flap shuts"), 4);
    }

    private static void fullSkies() {
        CellarPump x = new CellarPump();
        for (int i = 0; i < 6; i++) {
            Check.due("sky " + i, Check.sky(x, "wait " + (i + 1)), i);
        }
        Check.due("a seventh", Check.sky(x, "wait 9"), Check.FULL);
        Check.due("the tape stays", x.count(5), 6);
        x.wipe();
        Check.due("a seventh, with a fault", Check.sky(x, "snow"), Check.FULL);
        Check.due("the tape stays", x.wipe(), 4);
        for (int i = 0; i < 6; i++) {
            Check.due("sky " + i + " stays", x.skyOf(i, 1), i + 1);
        }
    }

    private static void skyOf() {
        CellarPump x = new CellarPump();
        Check.due("none", x.skyOf(0, 0), Check.BEYOND);
        Check.sky(x, "wait 5;rain 50;wait 7");
        Check.due("deeds", x.skyOf(0, 0), 3);
        Check.due("minutes", x.skyOf(0, 1), 12);
        Check.due("no such what", x.skyOf(0, 2), Check.BEYOND);
        Check.due("no such what", x.skyOf(0, -1), Check.BEYOND);
        Check.due("no such sky", x.skyOf(1, 0), Check.BEYOND);
        Check.due("no such sky", x.skyOf(-1, 0), Check.BEYOND);
    }

    private static void play() {
        CellarPump x = new CellarPump();
        Check.due("none", x.play(0), Check.BEYOND);
        x.water(2, 1, 10);
        x.thing(5, 1, 29);
        Check.sky(x, "current off;rain 20;wait 3;rain 5;wait 2;bail 12;wait 1");
        Check.due("10 a minute, three of them, 12 bailed", x.play(0), 18);
        Check.due("minutes went", x.now(8), 6);
        Check.due("rain stays", x.now(0), 5);
        Check.due("the thing is harmed", x.harm(), 5);
        Check.due("bailing is no pumping", x.now(13), 0);
        Check.due("again", x.play(0), 36);
        Check.due("no such sky", x.play(-1), Check.BEYOND);
    }

    private static void playEachDeed() {
        CellarPump x = new CellarPump();
        Check.sky(x, "current off;flap sticks;battery 77");
        Check.sky(x, "current on;flap shuts;bail 30");
        x.set(2, 40);
        Check.due("deep stays", x.play(0), 40);
        Check.due("no current", x.now(15), 0);
        Check.due("flap sticks", x.now(16), 1);
        Check.due("battery", x.now(7), 77);
        Check.due("no minute", x.now(8), 0);
        Check.due("bailed", x.play(1), 10);
        Check.due("current", x.now(15), 1);
        Check.due("flap shuts", x.now(16), 0);
        Check.due("bailed, 0 at least", x.play(1), 0);
        x.build(1);
        x.play(0);
        Check.due("the flap never sticks with the valve", x.now(16), 0);
        Check.due("that is no finding", x.status(-1), 0);
    }
}

/** The edges that part 2 of "Terms" and promises 19 to 23 name: the tape, texts, skies. */
public final class EdgesOfSkiesTest {
    public static void main(String[] args) {
        tape();
        tokens();
        bytesThatBeginNoToken();
        numbers();
        twelveDeeds();
        deeds();
        faults();
        faultsAtTheEnd();
        skies();
        oneByOne();
        eachDeedAlone();
        feed();
        feedRefused();
        wipe();
        sky();
        skyRefused();
        skyWithFault();
        skyOf();
        play();
        Check.finish();
    }

    /** What sky() answers to a text on a new object. */
    private static int read(String text) {
        return Check.sky(new CellarPump(), text);
    }

    private static void stands(String text) {
        Edges.due("'" + text + "'", read(text), 0);
    }

    private static void fails(String text, int fault) {
        Edges.due("'" + text + "'", read(text), -1 - fault);
    }

    private static String blanks(int n) {
        return " ".repeat(n);
    }

    private static void tape() {
        Edges.says("A TEXT is read from THE TAPE (bytes, at most 100).");
        stands("rain 1" + blanks(94));
        stands(blanks(88) + "wait 5;rain" + "7");
        fails(blanks(92) + "wait 5; ", 100);
        CellarPump x = new CellarPump();
        Check.feed(x, blanks(100));
        Edges.due("100 bytes", x.count(5), 100);
        Edges.due("one more", x.feed(0, 1), Check.FULL);
    }

    private static void tokens() {
        Edges.says("TOKENS, each as long as can be: WORDS (letters a to z), NUMBERS (digits, 999 at most in value),"
            + " SIGN ; ; blanks (32) may stand between.");
        stands("rain1;wait2;current on;flap sticks;battery3;bail4");
        stands("rain    1    ;    wait    2");
        stands("  rain 1  ");
        fails("rainwait 1", 0);
        fails("ra in 1", 0);
        fails("currenton", 0);
        fails("current o n", 8);
        fails("rain 1 1", 7);
        fails("wait 1wait 1", 6);
        fails("flap sticksx", 5);
        fails("a", 0);
        fails("z", 0);
        stands("rain 0;rain 9;rain 10;rain 99");
    }

    /** Each byte in the place behind a whole text: it may be a blank, a digit, a sign, or nothing at all. */
    private static void bytesThatBeginNoToken() {
        Edges.says("blanks (32) may stand between.");
        for (int b = 0; b < 256; b++) {
            boolean isDigit = b >= '0' && b <= '9';
            int due = isDigit || b == ' ' ? 0 : b == ';' ? -1 - 7 : -1 - 6;
            Edges.due("byte " + b + " behind a text", read("rain 5" + (char) b), due);
            int dueFirst = b == ' ' ? 0 : -1;
            Edges.due("byte " + b + " ahead of a text", read((char) b + "rain 5"), dueFirst);
            boolean isBetween = b == ' ' || isDigit;
            boolean isLetter = b >= 'a' && b <= 'z';
            int dueBetween = isBetween ? 0 : isLetter ? -1 : -1 - 4;
            Edges.due("byte " + b + " between word and number", read("rain" + (char) b + "5"), dueBetween);
        }
    }

    private static void numbers() {
        Edges.says("NUMBERS (digits, 999 at most in value)");
        stands("battery 999");
        fails("battery 1000", 8);
        fails("battery 9990", 8);
        stands("battery 000999");
        stands("battery " + "0".repeat(92));
        fails("battery " + "9".repeat(92), 8);
        // 2 to the 32nd and 64th, and 5 more: values that would wrap around.
        fails("rain 4294967301", 5);
        fails("rain 18446744073709551621", 5);
        fails("wait 2147483648", 5);
        fails("wait 1" + "0".repeat(80) + "1", 5);
    }

    private static String repeated(String deed, int n) {
        return (deed + ";").repeat(n - 1) + deed;
    }

    private static void twelveDeeds() {
        Edges.says("TEXT: DEED { ; DEED }, 12 DEEDS at most.");
        stands("rain 1");
        CellarPump x = new CellarPump();
        Edges.due("12", Check.sky(x, repeated("wait 60", 12)), 0);
        Edges.due("12 of them", x.skyOf(0, 0), 12);
        Edges.due("all their minutes", x.skyOf(0, 1), 720);
        fails(repeated("wait 6", 13), 84);
        fails(repeated("rain 1", 14), 84);
        fails("", 0);
        fails(";", 0);
        fails(";rain 1", 0);
        fails("rain 1;", 7);
        fails("rain 1;;rain 1", 7);
        fails("rain 1 rain 1", 7);
    }

    private static void deeds() {
        Edges.says("DEED: rain and a NUMBER (0 to 99); wait and a NUMBER (1 to 60); current on, current off; flap sticks,"
            + " flap shuts; battery and a NUMBER (0 to 999); bail and a NUMBER (0 to 999: DEEP is that less, 0 at least).");
        stands("rain 0;rain 99;wait 1;wait 60;battery 0;battery 999;bail 0;bail 999");
        stands("current on;current off;flap shuts;flap sticks");
        fails("rain 100", 5);
        fails("wait 0", 5);
        fails("wait 61", 5);
        fails("battery 1000", 8);
        fails("bail 1000", 5);
        fails("current sticks", 8);
        fails("current shuts", 8);
        fails("current 1", 8);
        fails("flap on", 5);
        fails("flap off", 5);
        fails("flap 0", 5);
        fails("rain on", 5);
        fails("battery off", 8);
        CellarPump x = new CellarPump();
        Check.sky(x, "bail 999");
        Check.sky(x, "bail 0");
        int[][] bailed = {{0, 0}, {998, 0}, {999, 0}, {1000, 1}, {9999, 9000}};
        for (int[] b : bailed) {
            x.set(2, b[0]);
            Edges.due("999 of " + b[0], x.play(0), b[1]);
            Edges.due("none of " + b[1], x.play(1), b[1]);
        }
        Edges.due("bailing is no pumping, and takes no time", x.now(13) + x.now(8), 0);
    }

    private static void faults() {
        Edges.says("FAULT: the place (from 0) of the first byte of the first TOKEN that can't stand there (a NUMBER that isn't"
            + " as told, another WORD, a byte that begins no TOKEN, a 13th DEED's WORD: its own),");
        fails("rain 50;rain  100", 14);
        fails("wait 50;wait0", 12);
        fails("snow 5", 0);
        fails("main 5", 0);
        fails("raim 5", 0);
        fails("rai 5", 0);
        fails("rains 5", 0);
        fails("rain 5;  snow 5", 9);
        fails("flap  stick", 6);
        fails("rain #", 5);
        fails("#", 0);
        fails("rain 5;wait 5  #", 15);
        fails("rain -1", 5);
        fails("rain 1;snow 1;#", 7);
        fails("5", 0);
        fails("rain ;", 5);
        fails("rain rain", 5);
        fails("on", 0);
        fails(repeated("rain 1", 12) + ";   rain 1", 87);
        fails(repeated("rain 1", 12) + ";snow 1", 84);
        fails(repeated("rain 1", 12) + ";7", 84);
        fails(repeated("rain 1", 12) + ";;", 84);
        fails(repeated("rain 1", 12) + " rain", 84);
        fails(repeated("rain 1", 11) + ";rain 100;rain 1", 82);
        fails(blanks(99) + "#", 99);
    }

    private static void faultsAtTheEnd() {
        Edges.says("or how many bytes there are if it ends too early.");
        fails("", 0);
        fails(" ", 1);
        fails("rain", 4);
        fails("rain  ", 6);
        fails("current", 7);
        fails("flap ", 5);
        fails("rain 1;", 7);
        fails("rain 1;  ", 9);
        fails("rain 1;wait", 11);
        fails(repeated("rain 1", 12) + ";", 84);
        fails(repeated("rain 1", 12) + ";" + blanks(16), 100);
        fails(blanks(96) + "rain", 100);
        fails(blanks(100), 100);
    }

    private static void sixSkies(CellarPump x) {
        for (int i = 0; i < 6; i++) {
            Check.sky(x, "wait " + (10 + i));
        }
    }

    private static void skies() {
        Edges.says("SKIES 0, 1, .. (at most 6).");
        CellarPump x = new CellarPump();
        for (int i = 0; i < 6; i++) {
            Edges.due("a sky's number", Check.sky(x, "wait " + (10 + i)), i);
        }
        Edges.due("a seventh", Check.sky(x, "wait 1"), Check.FULL);
        Edges.due("six", x.count(2), 6);
        for (int i = 0; i < 6; i++) {
            Edges.due("each is its own", x.skyOf(i, 1), 10 + i);
        }
    }

    private static void oneByOne() {
        Edges.says("To play one, its DEEDS are done one by one.");
        CellarPump x = new CellarPump();
        x.water(2, 1, 0);
        Check.sky(x, "rain 9;wait 2;rain 5;bail 3;wait 1;rain 1");
        Edges.due("18 less 3 and 5", x.play(0), 20);
        Edges.due("the rain of the last", x.now(0), 1);
        Check.sky(x, "bail 3;rain 9;wait 1");
        Edges.due("20 less 3 and 9", x.play(1), 26);
        CellarPump y = new CellarPump();
        Check.sky(y, repeated("wait 1", 12));
        y.play(0);
        Edges.due("all twelve", y.now(8), 12);
    }

    /** What each deed makes of a night of rain 1, flap stuck, battery 1, deep 30, and no other thing. */
    private static void eachDeedAlone() {
        Edges.says("its DEEDS are done one by one.");
        String[] deeds = {"rain 7", "rain 1", "current off", "current on", "flap shuts", "flap sticks", "battery 7",
            "bail 7", "wait 1"};
        int[] measures = {0, 1, 2, 7, 8, 15, 16};
        int[][] due = {{7, 100, 30, 1, 0, 1, 1}, {1, 100, 30, 1, 0, 1, 1}, {1, 100, 30, 1, 0, 0, 1},
            {1, 100, 30, 1, 0, 1, 1}, {1, 100, 30, 1, 0, 1, 0}, {1, 100, 30, 1, 0, 1, 1}, {1, 100, 30, 7, 0, 1, 1},
            {1, 100, 23, 1, 0, 1, 1}, {1, 99, 30, 1, 1, 1, 1}};
        for (int i = 0; i < deeds.length; i++) {
            for (boolean is : new boolean[] {true, false}) {
                CellarPump x = new CellarPump();
                x.set(0, 1);
                x.set(2, 30);
                x.set(7, 1);
                x.flap(true);
                x.current(is);
                Check.sky(x, deeds[i]);
                x.play(0);
                for (int k = 0; k < measures.length; k++) {
                    boolean isCurrentAsWas = measures[k] == 15 && !deeds[i].startsWith("current");
                    int want = isCurrentAsWas ? (is ? 1 : 0) : due[i][k];
                    Edges.due(deeds[i] + ", measure " + measures[k], x.now(measures[k]), want);
                }
            }
        }
    }

    private static void feed() {
        Edges.says("THE TAPE gets the n lowest bytes of a number behind it, the highest of these first (n 1 to 4): how many it"
            + " has.");
        // "rain", "wait" are four letters each; what stands above the n lowest bytes doesn't count.
        CellarPump x = new CellarPump();
        Edges.due("four", x.feed(0x7261696E, 4), 4);
        Edges.due("one of four", x.feed(0x41424320, 1), 5);
        Edges.due("two of four", x.feed(0x41423432, 2), 7);
        Edges.due("three of four", x.feed(0x413B7761, 3), 10);
        Edges.due("two of four", x.feed(0xFFFF6974, 2), 12);
        Edges.due("one of a negative one", x.feed(0xFFFFFF37, 1), 13);
        Edges.due("rain 42;wait7", x.sky(), 0);
        Edges.due("seven minutes", x.skyOf(0, 1), 7);
        x.play(0);
        Edges.due("rain", x.now(0), 42);
        CellarPump y = new CellarPump();
        y.feed(-1, 4);
        Edges.due("bytes of 255 begin no token", y.sky(), -1);
        y.feed(Edges.MIN, 4);
        Edges.due("nor does 128", y.sky(), -1);
    }

    private static void feedRefused() {
        Edges.says("the highest of these first (n 1 to 4): how many it has. BEYOND: n. FULL.");
        Edges.range("n", 1, 4, Edges::lived, (x, v) -> x.feed(0, v));
        for (int n = 1; n <= 4; n++) {
            int bytes = n;
            Edges.refused(n + " more than 100", Check.FULL, x -> Check.feed(x, blanks(101 - bytes)), x -> x.feed(0, bytes));
            CellarPump x = Edges.made(y -> Check.feed(y, blanks(100 - bytes)));
            Edges.due(n + " up to 100", x.feed(0, n), 100);
        }
        Edges.refused("full, and no n", Check.BEYOND, x -> Check.feed(x, blanks(100)), x -> x.feed(0, 0));
        Edges.refused("full, and no n", Check.BEYOND, x -> Check.feed(x, blanks(100)), x -> x.feed(0, 5));
    }

    private static void wipe() {
        Edges.says("THE TAPE is empty: how many it had.");
        CellarPump x = new CellarPump();
        Edges.due("none", x.wipe(), 0);
        Check.feed(x, blanks(100));
        Edges.due("100", x.wipe(), 100);
        Edges.due("it is empty", x.count(5), 0);
        Edges.due("and has room", x.feed(0, 1), 1);
        Edges.due("one", x.wipe(), 1);
        Edges.due("what was there is not read", Check.sky(x, "rain 1"), 0);
    }

    private static void sky() {
        Edges.says("THE TAPE is a TEXT, and empty then: its SKY's number.");
        CellarPump x = new CellarPump();
        Edges.due("the first", Check.sky(x, "wait 1;rain 2;wait 3"), 0);
        Edges.due("empty then", x.count(5), 0);
        Edges.due("the second", Check.sky(x, "wait 7"), 1);
        Edges.due("one deed alone", x.skyOf(1, 0), 1);
        Edges.due("an empty tape is no text", x.sky(), -1);
        Edges.due("no third", x.count(2), 2);
    }

    private static void skyRefused() {
        Edges.says("its SKY's number. FULL (THE TAPE stays).");
        Edges.refused("a seventh", Check.FULL, x -> {
            sixSkies(x);
            Check.feed(x, "wait 9");
        }, CellarPump::sky);
        Edges.refused("a seventh, of nothing", Check.FULL, EdgesOfSkiesTest::sixSkies, CellarPump::sky);
        CellarPump x = Edges.made(EdgesOfSkiesTest::sixSkies);
        x.image();
        Check.feed(x, "snow");
        Edges.due("a seventh, with a fault", x.sky(), Check.FULL);
        Edges.due("the tape stays", x.count(5), 4);
        CellarPump y = new CellarPump();
        y.image();
        sixSkies(y);
        Check.feed(y, "wait 59");
        Edges.due("a seventh", y.sky(), Check.FULL);
        y.undo();
        Edges.due("what stayed is read once there is room", y.sky(), 0);
        Edges.due("as it was", y.skyOf(0, 1), 59);
    }

    private static void skyWithFault() {
        Edges.says("With a FAULT: -1 less the FAULT (nothing changes but that THE TAPE is empty; no finding).");
        String[] texts = {"", "snow", "rain 1;wait 5;rain 100", "rain 1;", blanks(100)};
        int[] due = {-1, -1, -1 - 19, -8, -101};
        for (int i = 0; i < texts.length; i++) {
            String text = texts[i];
            CellarPump x = Edges.made(Edges::lived);
            x.wipe();
            int before = x.status(-1);
            Edges.due("'" + text + "'", Check.sky(x, text), due[i]);
            Edges.due("no finding", x.status(-1), before);
            Edges.due("the tape is empty", x.count(5), 0);
            Edges.changesNothing("'" + text + "'", y -> {
                Edges.lived(y);
                y.wipe();
            }, y -> Check.sky(y, text));
        }
    }

    private static void skyOf() {
        Edges.says("Of a SKY: how many DEEDS it has (what 0), how many MINUTES it takes (1). BEYOND.");
        Edges.refused("none is there", Check.BEYOND, Edges::nothing, x -> x.skyOf(0, 0));
        Edges.range("sky", 0, 1, Edges::lived, (x, v) -> x.skyOf(v, 0));
        Edges.range("sky of six", 0, 5, EdgesOfSkiesTest::sixSkies, (x, v) -> x.skyOf(v, 1));
        Edges.range("what", 0, 1, Edges::lived, (x, v) -> x.skyOf(0, v));
        CellarPump x = new CellarPump();
        Check.sky(x, "rain 60");
        Edges.due("one deed", x.skyOf(0, 0), 1);
        Edges.due("no minutes", x.skyOf(0, 1), 0);
        Check.sky(x, "bail 60;wait 60;battery 60;wait 1");
        Edges.due("four deeds", x.skyOf(1, 0), 4);
        Edges.due("minutes of waits alone", x.skyOf(1, 1), 61);
    }

    private static void play() {
        Edges.says("A SKY is played (flap sticks does nothing with the VALVE): DEEP. BEYOND.");
        Edges.refused("none is there", Check.BEYOND, Edges::nothing, x -> x.play(0));
        Edges.range("sky", 0, 1, Edges::lived, CellarPump::play);
        CellarPump x = new CellarPump();
        x.water(3, 9, 0);
        Check.sky(x, "flap sticks;rain 5;wait 1;flap shuts;wait 1");
        Check.sky(x, "flap sticks");
        Edges.due("45 in the first minute", x.play(0), 45);
        x.play(1);
        Edges.due("it sticks", x.now(16), 1);
        x.build(1);
        x.play(1);
        Edges.due("not with the valve", x.now(16), 0);
        Edges.due("and that is no finding", x.status(-1), 0);
        Edges.due("nothing more comes", x.play(0), 45);
    }
}

import java.lang.reflect.Method;
import java.util.ArrayList;
import java.util.List;
import java.util.Random;

/** Runs of calls by chance (the same ones each time) on CellarPump and on Model: all answers are alike. */
public final class ModelTest {
    /** A call, how often it is chosen, and its arguments' ranges, least and most by turns. */
    private static final Object[][] CALLS = {
        {"water", 6, 0, 6, 1, 99, 0, 60}, {"waterOf", 4, 0, 7, 0, 4}, {"change", 3, 0, 7, 1, 2, 1, 99},
        {"set", 14, 0, 7, 0, 99}, {"set", 2, 0, 7, 0, 999}, {"set", 1, 2, 2, 0, 9999}, {"current", 3}, {"flap", 4},
        {"minutes", 8, 1, 20}, {"minutes", 1, 1, 200}, {"now", 12, 0, 16}, {"renew", 1}, {"start", 4, 0, 40},
        {"quickest", 4}, {"came", 3}, {"thing", 8, 1, 99, 1, 60, 0, 999}, {"thing", 3, 1, 9, 1, 9, 0, 60},
        {"thingOf", 4, 0, 9, 0, 4}, {"lift", 3, 0, 9}, {"down", 2, 0, 9, 0, 999}, {"down", 2, 0, 9, 0, 60},
        {"harm", 3}, {"feed", 1, 0, 255, 1, 4}, {"wipe", 1}, {"sky", 1}, {"skyOf", 3, 0, 5, 0, 1}, {"play", 2, 0, 5},
        {"ahead", 6, 0, 60, 0, 3}, {"ahead", 2, 0, 400, 0, 3}, {"under", 5, 0, 5, 0, 3}, {"reaches", 3, 0, 9999},
        {"reaches", 3, 0, 200}, {"bestOn", 2, 1, 200, 0, 9999}, {"bestOn", 3, 1, 50, 0, 300},
        {"rateFor", 2, 1, 200, 0, 9999}, {"rateFor", 3, 1, 50, 0, 300}, {"batteryFor", 1, 1, 200, 0, 9999},
        {"batteryFor", 2, 1, 50, 0, 300}, {"cost", 3, 0, 3, 0, 999}, {"build", 1, 0, 3},
        {"worth", 4, 0, 5, 0, 9999, 0, 1}, {"worth", 3, 0, 5, 0, 500, 0, 1}, {"rescue", 6, 0, 2},
        {"shelf", 3, 0, 600, 0, 1}, {"odds", 2, 1, 20, 1, 200, 0, 9999}, {"odds", 2, 1, 20, 1, 20, 0, 200},
        {"seed", 1, -99, 99}, {"hold", 3, 0, 9, -1, 7}, {"as", 5, 0, 9, 0, 6}, {"sheet", 2, 0, 3, 0, 32, 0, 40},
        {"write", 5, 0, 3, 0, 40, 0, 99}, {"copy", 3, 0, 3, 0, 20, 0, 3, 0, 20, 0, 20}, {"load", 2, 0, 3},
        {"judge", 3, 0, 3}, {"image", 2}, {"undo", 1}, {"tear", 1}, {"count", 6, 0, 7}, {"status", 4, -1, 6}};

    private static final String[] PIECES = {"rain", "wait", "current", "flap", "battery", "bail", "on", "off",
        "sticks", "shuts", ";", " ", "0", "7", "60", "61", "99", "100", "999", "1000", "x", "#"};

    private final Random chance;
    private final CellarPump is = new CellarPump();
    private final Model due = new Model();
    private final List<String> trace = new ArrayList<>();
    private final int run;
    private boolean differs = false;

    private ModelTest(int run) {
        this.run = run;
        this.chance = new Random(run);
    }

    public static void main(String[] args) throws Exception {
        int runs = args.length > 0 ? Integer.parseInt(args[0]) : 150;
        int first = args.length > 1 ? Integer.parseInt(args[1]) : 0;
        for (int run = first; run < first + runs; run++) {
            ModelTest test = new ModelTest(run);
            test.goThrough();
            Check.holds("run " + run + " differs", !test.differs);
        }
        Check.finish();
    }

    private void goThrough() throws Exception {
        // Some objects have little that can go wrong: else a deep cellar would be all that is seen.
        boolean isCalm = run % 3 == 0;
        while (trace.size() < 480 && !differs) {
            if (chance.nextInt(40) == 0) {
                text(chance.nextInt(3) > 0 ? goodText() : anyText());
            } else if (chance.nextInt(60) == 0) {
                ask("set", 2, chance.nextInt(isCalm ? 60 : 400));
            } else if (chance.nextInt(50) == 0) {
                rightSheet();
            } else {
                Object[] call = CALLS[chance.nextInt(CALLS.length)];
                if (chance.nextInt(14) < (Integer) call[1]) {
                    ask((String) call[0], arguments(call, isCalm));
                }
            }
        }
    }

    private Object[] arguments(Object[] call, boolean isCalm) {
        if (call[0].equals("current") || call[0].equals("flap")) {
            return new Object[] {chance.nextBoolean()};
        }
        Object[] args = new Object[call.length / 2 - 1];
        for (int i = 0; i < args.length; i++) {
            args[i] = number((Integer) call[2 + 2 * i], (Integer) call[3 + 2 * i]);
        }
        if (call[0].equals("sheet") && chance.nextInt(8) > 0) {
            args[1] = new int[] {0, 8, 8, 16, 16, 32}[chance.nextInt(6)];
        }
        if (call[0].equals("water") && isCalm && chance.nextInt(8) > 0) {
            args[1] = 1 + chance.nextInt(6);
        }
        if (call[0].equals("set") && isCalm && args[0].equals(0) && chance.nextInt(8) > 0) {
            args[1] = chance.nextInt(8);
        }
        return args;
    }

    private int number(int least, int most) {
        switch (chance.nextInt(40)) {
            case 0: return least;
            case 1: return most;
            case 2: return least - 1;
            case 3: return most + 1;
            case 4: return chance.nextInt();
            case 5: return new int[] {Integer.MIN_VALUE, Integer.MAX_VALUE, -1, 0}[chance.nextInt(4)];
            default: return least + chance.nextInt(most - least + 1);
        }
    }

    private String goodText() {
        StringBuilder text = new StringBuilder();
        int deeds = 1 + chance.nextInt(8);
        for (int i = 0; i < deeds && text.length() < 85; i++) {
            text.append(i == 0 ? "" : ";").append(chance.nextInt(3) == 0 ? " " : "");
            switch (chance.nextInt(9)) {
                case 0: text.append("rain ").append(chance.nextInt(40)); break;
                case 1: text.append("current ").append(chance.nextBoolean() ? "on" : "off"); break;
                case 2: text.append("flap ").append(chance.nextBoolean() ? "sticks" : "shuts"); break;
                case 3: text.append("battery").append(chance.nextInt(30)); break;
                case 4: text.append("bail ").append(chance.nextInt(200)); break;
                default: text.append("wait ").append(1 + chance.nextInt(20)); break;
            }
        }
        return text.toString();
    }

    private String anyText() {
        StringBuilder text = new StringBuilder(chance.nextBoolean() ? goodText() : "");
        if (text.length() > 0 && chance.nextBoolean()) {
            text.setCharAt(chance.nextInt(text.length()), (char) chance.nextInt(256));
            return text.toString();
        }
        int pieces = chance.nextInt(12);
        for (int i = 0; i < pieces; i++) {
            text.append(PIECES[chance.nextInt(PIECES.length)]);
        }
        return text.toString();
    }

    private void text(String text) throws Exception {
        ask("wipe");
        for (int at = 0; at < text.length(); ) {
            int n = Math.min(1 + chance.nextInt(4), text.length() - at);
            int bytes = chance.nextInt();
            for (int i = 0; i < n; i++) {
                bytes = bytes << 8 | text.charAt(at + i);
            }
            ask("feed", bytes, n);
            at += n;
        }
        ask("sky");
    }

    /** A sheet of what is due, but for one number at times. */
    private void rightSheet() throws Exception {
        int n = 1 + chance.nextInt(6);
        ask("sheet", 3, 32, n);
        for (int i = 0; i < n; i++) {
            ask("write", 3, i, due.ahead(i + 1, 0) + (chance.nextInt(12) == 0 ? 1 : 0));
        }
        ask("judge", 3);
    }

    private void ask(String name, Object... args) throws Exception {
        if (differs) {
            return;
        }
        Object got = method(CellarPump.class, name).invoke(is, args);
        Object want = method(Model.class, name).invoke(due, args);
        trace.add(name + java.util.Arrays.toString(args) + " = " + want);
        if (!got.equals(want)) {
            differs = true;
            System.out.println("run " + run + ": " + String.join("\n  ", trace) + ", answered " + got);
        }
    }

    private static Method method(Class<?> of, String name) {
        for (Method m : of.getDeclaredMethods()) {
            if (m.getName().equals(name) && !java.lang.reflect.Modifier.isPrivate(m.getModifiers())) {
                m.setAccessible(true);
                return m;
            }
        }
        throw new IllegalStateException("no call " + name);
    }
}

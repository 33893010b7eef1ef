import java.util.ArrayList;
import java.util.Arrays;
import java.util.List;

/**
 * The document, said again as plainly as can be and without care for speed or room: every night is tried minute by
 * minute on a copy, every order of lifting is gone through. ModelTest holds CellarPump against it.
 */
final class Model {
    private static final class Water {
        int kind;
        int flow;
        int mark;
        int brought;

        Water copied() {
            Water w = new Water();
            w.kind = kind;
            w.flow = flow;
            w.mark = mark;
            w.brought = brought;
            return w;
        }
    }

    private static final class Thing {
        int worth;
        int weight;
        int height;
        boolean lifted;
        boolean harmed;

        Thing copied() {
            Thing t = new Thing();
            t.worth = worth;
            t.weight = weight;
            t.height = height;
            t.lifted = lifted;
            t.harmed = harmed;
            return t;
        }
    }

    /** RAIN, GROUND, DEEP, ON, OFF, RATE, LIFE, THE BATTERY stand in m by their numbers of set(). */
    private static final class All {
        int[] m = {0, 100, 0, 50, 10, 20, 500, 0};
        int minute;
        int starts;
        int came;
        int pumped;
        int over;
        int z = 1;
        boolean runs;
        boolean current = true;
        boolean sticks;
        List<Water> waters = new ArrayList<>();
        List<Thing> things = new ArrayList<>();
        List<String[]> skies = new ArrayList<>();
        List<Integer> log = new ArrayList<>();
        int[] costs = {100, 100, 100, 100};
        boolean[] built = new boolean[4];
        int[] spots = {-1, -1, -1, -1, -1, -1, -1, -1, -1, -1};
        List<Integer> deeps = new ArrayList<>();

        All copied() {
            All a = new All();
            a.m = m.clone();
            a.minute = minute;
            a.starts = starts;
            a.came = came;
            a.pumped = pumped;
            a.over = over;
            a.z = z;
            a.runs = runs;
            a.current = current;
            a.sticks = sticks;
            for (Water w : waters) {
                a.waters.add(w.copied());
            }
            for (Thing t : things) {
                a.things.add(t.copied());
            }
            a.skies.addAll(skies);
            a.log.addAll(log);
            a.costs = costs.clone();
            a.built = built.clone();
            a.spots = spots.clone();
            return a;
        }

        int comes(Water w) {
            int grounds = w.flow * m[1] / 100;
            int seeped = grounds / 2;
            int stepped = m[0] > w.mark ? w.flow * (m[0] - w.mark) : 0;
            if (w.kind == 1) {
                return built[0] ? grounds / 2 : grounds;
            }
            if (w.kind == 2) {
                return stepped;
            }
            if (w.kind == 3) {
                return sticks ? stepped : 0;
            }
            if (w.kind == 4) {
                return built[0] ? seeped / 2 : seeped;
            }
            if (w.kind == 5) {
                return minute < w.mark ? 0 : w.flow;
            }
            if (w.kind == 6) {
                return built[0] ? seeped / 2 + w.flow : seeped;
            }
            return w.flow;
        }

        void minute() {
            m[1] = m[1] + m[0];
            m[1] = m[1] - m[1] / 50;
            if (m[1] > 999) {
                m[1] = 999;
            }
            for (Water w : waters) {
                int comes = comes(w);
                w.brought += comes;
                came += comes;
                m[2] += comes;
            }
            if (m[2] > 9999) {
                over += m[2] - 9999;
                m[2] = 9999;
            }
            boolean dead = starts > m[6];
            if (!runs && !dead && m[2] >= m[3] && (current || m[7] >= 1)) {
                log.add(minute);
                starts++;
                if (starts <= m[6]) {
                    runs = true;
                }
            }
            if (runs && !current && m[7] == 0) {
                runs = false;
            }
            if (runs) {
                if (!current) {
                    m[7]--;
                }
                int rate = built[2] ? m[5] + m[5] : m[5];
                int out = rate > m[2] ? m[2] : rate;
                m[2] -= out;
                pumped += out;
                if (m[2] <= m[4]) {
                    runs = false;
                }
            }
            minute++;
            for (Thing t : things) {
                if (!t.lifted && m[2] > t.height) {
                    t.harmed = true;
                }
            }
            deeps.add(m[2]);
        }

        void minutes(int n) {
            for (int i = 0; i < n; i++) {
                minute();
            }
        }

        void play(String[] deeds) {
            for (String deed : deeds) {
                String word = deed.substring(0, deed.indexOf(' '));
                String rest = deed.substring(deed.indexOf(' ') + 1);
                switch (word) {
                    case "rain" -> m[0] = Integer.parseInt(rest);
                    case "wait" -> minutes(Integer.parseInt(rest));
                    case "current" -> current = rest.equals("on");
                    case "flap" -> sticks = rest.equals("sticks") && !built[1];
                    case "battery" -> m[7] = Integer.parseInt(rest);
                    default -> m[2] = Math.max(0, m[2] - Integer.parseInt(rest));
                }
            }
        }

        void build(int work) {
            built[work] = true;
            if (work == 1) {
                sticks = false;
            }
            if (work == 3) {
                m[7] = Math.min(999, m[7] + 240);
            }
        }

        int harm() {
            int sum = 0;
            for (Thing t : things) {
                sum += t.harmed ? t.worth : 0;
            }
            return sum;
        }

        int greatest() {
            int most = 0;
            for (int d : deeps) {
                most = Math.max(most, d);
            }
            return most;
        }
    }

    private All a = new All();
    private All kept = null;
    private final List<Integer> tape = new ArrayList<>();
    private final int[][] sheets = new int[4][];
    private final int[] bits = new int[4];
    private final int[] found = new int[7];

    private int f(int finding) {
        found[-1000001 - finding]++;
        return finding;
    }

    private static boolean in(int v, int lo, int hi) {
        return lo <= v && v <= hi;
    }

    int water(int kind, int flow, int mark) {
        if (!in(kind, 0, 6) || !in(flow, 1, 99) || !in(mark, 0, 999)) {
            return f(Check.BEYOND);
        }
        if (a.waters.size() == 8) {
            return f(Check.FULL);
        }
        Water w = new Water();
        w.kind = kind;
        w.flow = flow;
        w.mark = mark;
        a.waters.add(w);
        return a.waters.size() - 1;
    }

    int waterOf(int water, int what) {
        if (!in(water, 0, a.waters.size() - 1) || !in(what, 0, 4)) {
            return f(Check.BEYOND);
        }
        Water w = a.waters.get(water);
        return new int[] {w.kind, w.flow, w.mark, a.comes(w), w.brought}[what];
    }

    int change(int water, int what, int v) {
        if (!in(water, 0, a.waters.size() - 1) || !in(what, 1, 2) || !(what == 1 ? in(v, 1, 99) : in(v, 0, 999))) {
            return f(Check.BEYOND);
        }
        Water w = a.waters.get(water);
        int was = what == 1 ? w.flow : w.mark;
        if (what == 1) {
            w.flow = v;
        } else {
            w.mark = v;
        }
        return was;
    }

    int set(int what, int v) {
        int[][] range = {{0, 99}, {0, 999}, {0, 9999}, {1, 999}, {0, 998}, {1, 99}, {1, 999}, {0, 999}};
        if (!in(what, 0, 7) || !in(v, range[what][0], range[what][1])) {
            return f(Check.BEYOND);
        }
        if (what == 3 && a.m[4] >= v || what == 4 && v >= a.m[3]) {
            return f(Check.BEYOND);
        }
        int was = a.m[what];
        a.m[what] = v;
        return was;
    }

    int current(boolean is) {
        int was = a.current ? 1 : 0;
        a.current = is;
        return was;
    }

    int flap(boolean sticks) {
        if (sticks && a.built[1]) {
            return f(Check.STATE);
        }
        int was = a.sticks ? 1 : 0;
        a.sticks = sticks;
        return was;
    }

    int minutes(int n) {
        if (!in(n, 1, 200)) {
            return f(Check.BEYOND);
        }
        a.minutes(n);
        return a.m[2];
    }

    int now(int what) {
        if (!in(what, 0, 16)) {
            return f(Check.BEYOND);
        }
        if (what < 8) {
            return a.m[what];
        }
        return new int[] {a.minute, a.starts, a.runs ? 1 : 0, a.starts > a.m[6] ? 1 : 0, a.came, a.pumped, a.over,
            a.current ? 1 : 0, a.sticks ? 1 : 0}[what - 8];
    }

    int renew() {
        int was = a.starts;
        a.starts = 0;
        a.log.clear();
        a.runs = false;
        return was;
    }

    private List<Integer> log() {
        return a.log.subList(0, Math.min(40, a.log.size()));
    }

    int start(int i) {
        return in(i, 0, log().size() - 1) ? log().get(i) : f(Check.BEYOND);
    }

    int quickest() {
        if (log().size() < 2) {
            return f(Check.NONE);
        }
        int least = Integer.MAX_VALUE;
        for (int i = 1; i < log().size(); i++) {
            least = Math.min(least, log().get(i) - log().get(i - 1));
        }
        return least;
    }

    int came() {
        if (a.waters.isEmpty()) {
            return f(Check.NONE);
        }
        int best = 0;
        for (int i = 0; i < a.waters.size(); i++) {
            if (a.waters.get(i).brought > a.waters.get(best).brought) {
                best = i;
            }
        }
        return best;
    }

    int thing(int worth, int weight, int height) {
        if (!in(worth, 1, 99) || !in(weight, 1, 60) || !in(height, 0, 999)) {
            return f(Check.BEYOND);
        }
        if (a.things.size() == 10) {
            return f(Check.FULL);
        }
        Thing t = new Thing();
        t.worth = worth;
        t.weight = weight;
        t.height = height;
        a.things.add(t);
        return a.things.size() - 1;
    }

    int thingOf(int thing, int what) {
        if (!in(thing, 0, a.things.size() - 1) || !in(what, 0, 4)) {
            return f(Check.BEYOND);
        }
        Thing t = a.things.get(thing);
        return new int[] {t.worth, t.weight, t.height, t.lifted ? 1 : 0, t.harmed ? 1 : 0}[what];
    }

    int lift(int thing) {
        if (!in(thing, 0, a.things.size() - 1)) {
            return f(Check.BEYOND);
        }
        Thing t = a.things.get(thing);
        if (t.lifted || t.harmed) {
            return f(Check.STATE);
        }
        a.minutes(t.weight);
        t.lifted = true;
        return a.m[2];
    }

    int down(int thing, int height) {
        if (!in(thing, 0, a.things.size() - 1) || !in(height, 0, 999)) {
            return f(Check.BEYOND);
        }
        Thing t = a.things.get(thing);
        int was = t.lifted ? 1 : 0;
        t.lifted = false;
        t.height = height;
        return was;
    }

    int harm() {
        return a.harm();
    }

    int feed(int bytes, int n) {
        if (!in(n, 1, 4)) {
            return f(Check.BEYOND);
        }
        if (tape.size() + n > 100) {
            return f(Check.FULL);
        }
        for (int i = 4 - n; i < 4; i++) {
            tape.add(bytes >> 24 - 8 * i & 0xFF);
        }
        return tape.size();
    }

    int wipe() {
        int was = tape.size();
        tape.clear();
        return was;
    }

    /** The TOKENS' texts, with their places; the last one is empty: the end. */
    private List<String> tokens(List<Integer> places) {
        List<String> tokens = new ArrayList<>();
        StringBuilder text = new StringBuilder();
        for (int b : tape) {
            text.append((char) b);
        }
        java.util.regex.Matcher each = java.util.regex.Pattern
            .compile("[a-z]+|[0-9]+|;|[^ ]", java.util.regex.Pattern.DOTALL).matcher(text);
        while (each.find()) {
            tokens.add(each.group());
            places.add(each.start());
        }
        tokens.add("");
        places.add(tape.size());
        return tokens;
    }

    private static String told(String word, String token) {
        int[] range = switch (word) {
            case "rain" -> new int[] {0, 99};
            case "wait" -> new int[] {1, 60};
            case "battery", "bail" -> new int[] {0, 999};
            default -> null;
        };
        if (range == null) {
            List<String> two = word.equals("current") ? List.of("on", "off") : List.of("sticks", "shuts");
            return two.contains(token) ? token : null;
        }
        if (!token.matches("[0-9]+")) {
            return null;
        }
        java.math.BigInteger v = new java.math.BigInteger(token);
        boolean is = v.compareTo(java.math.BigInteger.valueOf(range[0])) >= 0
            && v.compareTo(java.math.BigInteger.valueOf(range[1])) <= 0;
        return is ? v.toString() : null;
    }

    int sky() {
        if (a.skies.size() == 6) {
            return f(Check.FULL);
        }
        List<Integer> places = new ArrayList<>();
        List<String> tokens = tokens(places);
        tape.clear();
        List<String> deeds = new ArrayList<>();
        int at = 0;
        while (true) {
            String word = tokens.get(at);
            List<String> words = List.of("rain", "wait", "current", "flap", "battery", "bail");
            if (deeds.size() == 12 || !words.contains(word)) {
                return -1 - places.get(at);
            }
            at++;
            String told = told(word, tokens.get(at));
            if (told == null) {
                return -1 - places.get(at);
            }
            deeds.add(word + " " + told);
            at++;
            if (tokens.get(at).isEmpty()) {
                a.skies.add(deeds.toArray(new String[0]));
                return a.skies.size() - 1;
            }
            if (!tokens.get(at).equals(";")) {
                return -1 - places.get(at);
            }
            at++;
        }
    }

    int skyOf(int sky, int what) {
        if (!in(sky, 0, a.skies.size() - 1) || !in(what, 0, 1)) {
            return f(Check.BEYOND);
        }
        All b = a.copied();
        b.play(a.skies.get(sky));
        return what == 0 ? a.skies.get(sky).length : b.minute - a.minute;
    }

    int play(int sky) {
        if (!in(sky, 0, a.skies.size() - 1)) {
            return f(Check.BEYOND);
        }
        a.play(a.skies.get(sky));
        return a.m[2];
    }

    private int outcome(All b, int what) {
        return new int[] {b.m[2], b.greatest(), b.starts - a.starts, b.harm()}[what];
    }

    private All after(int n) {
        All b = a.copied();
        b.minutes(n);
        return b;
    }

    int ahead(int n, int what) {
        return in(n, 0, 400) && in(what, 0, 3) ? outcome(after(n), what) : f(Check.BEYOND);
    }

    int under(int sky, int what) {
        if (!in(sky, 0, a.skies.size() - 1) || !in(what, 0, 3)) {
            return f(Check.BEYOND);
        }
        All b = a.copied();
        b.play(a.skies.get(sky));
        return outcome(b, what);
    }

    int reaches(int deep) {
        if (!in(deep, 0, 9999)) {
            return f(Check.BEYOND);
        }
        List<Integer> deeps = after(400).deeps;
        for (int i = 0; i < 400; i++) {
            if (deeps.get(i) > deep) {
                return i + 1;
            }
        }
        return f(Check.NONE);
    }

    int bestOn(int n, int most) {
        if (!in(n, 1, 200) || !in(most, 0, 9999)) {
            return f(Check.BEYOND);
        }
        int best = -1;
        int fewest = 0;
        for (int on = 200; on > a.m[4]; on--) {
            All b = a.copied();
            b.m[3] = on;
            b.minutes(n);
            if (b.greatest() <= most && (best < 0 || b.starts - a.starts <= fewest)) {
                best = on;
                fewest = b.starts - a.starts;
            }
        }
        return best < 0 ? f(Check.NONE) : best;
    }

    int rateFor(int n, int most) {
        if (!in(n, 1, 200) || !in(most, 0, 9999)) {
            return f(Check.BEYOND);
        }
        for (int rate = 1; rate <= 99; rate++) {
            All b = a.copied();
            b.m[5] = rate;
            b.minutes(n);
            if (b.greatest() <= most) {
                return rate;
            }
        }
        return f(Check.NONE);
    }

    int batteryFor(int n, int most) {
        if (!in(n, 1, 200) || !in(most, 0, 9999)) {
            return f(Check.BEYOND);
        }
        for (int battery = 0; battery <= 999; battery++) {
            All b = a.copied();
            b.current = false;
            b.m[7] = battery;
            b.minutes(n);
            if (b.greatest() <= most) {
                return battery;
            }
        }
        return f(Check.NONE);
    }

    int cost(int work, int v) {
        if (!in(work, 0, 3) || !in(v, 0, 999)) {
            return f(Check.BEYOND);
        }
        int was = a.costs[work];
        a.costs[work] = v;
        return was;
    }

    private int built() {
        return (a.built[0] ? 1 : 0) + (a.built[1] ? 2 : 0) + (a.built[2] ? 4 : 0) + (a.built[3] ? 8 : 0);
    }

    int build(int work) {
        if (!in(work, 0, 3)) {
            return f(Check.BEYOND);
        }
        if (a.built[work]) {
            return f(Check.STATE);
        }
        a.build(work);
        return built();
    }

    int worth(int sky, int coin, int what) {
        if (!in(sky, 0, a.skies.size() - 1) || !in(coin, 0, 9999) || !in(what, 0, 1)) {
            return f(Check.BEYOND);
        }
        long best = Long.MAX_VALUE;
        for (int set = 0; set < 16; set++) {
            All b = a.copied();
            int cost = 0;
            boolean can = true;
            for (int work = 0; work < 4; work++) {
                if ((set >> work & 1) == 1) {
                    can &= !a.built[work];
                    cost += a.costs[work];
                    b.build(work);
                }
            }
            b.play(a.skies.get(sky));
            if (can && cost <= coin) {
                best = Math.min(best, (b.harm() * 10000L + cost) * 16 + set);
            }
        }
        return (int) (what == 0 ? best % 16 : best / 160000);
    }

    private boolean liftedInTime(int thing, int behind, List<Integer> deeps) {
        Thing t = a.things.get(thing);
        if (t.lifted || t.harmed) {
            return false;
        }
        for (int i = 0; i < Math.min(400, behind); i++) {
            if (deeps.get(i) > t.height) {
                return false;
            }
        }
        return true;
    }

    /** Goes on from a set that is lifted, through all orders; tells whether the goal can be met. */
    private boolean goOn(int set, int time, int goal, int[] known, List<Integer> deeps) {
        if (known[set] != 0) {
            return known[set] == 2;
        }
        boolean meets = set == goal;
        for (int i = 0; i < a.things.size(); i++) {
            int then = time + a.things.get(i).weight;
            if ((goal >> i & 1) == 1 && (set >> i & 1) == 0 && liftedInTime(i, then, deeps)) {
                meets |= goOn(set | 1 << i, then, goal, known, deeps);
            }
        }
        known[set] = meets ? 2 : 1;
        return meets;
    }

    int rescue(int what) {
        if (!in(what, 0, 2)) {
            return f(Check.BEYOND);
        }
        List<Integer> deeps = after(400).deeps;
        int sets = 1 << a.things.size();
        int[] known = new int[sets];
        goOn(0, 0, sets - 1, known, deeps);
        int best = 0;
        for (int set = 0; set < sets; set++) {
            if (known[set] != 0 && worthOf(set) > worthOf(best)) {
                best = set;
            }
        }
        if (what < 2) {
            return what == 0 ? best : worthOf(best);
        }
        known = new int[sets];
        for (int i = 0; i < a.things.size(); i++) {
            int then = a.things.get(i).weight;
            if ((best >> i & 1) == 1 && liftedInTime(i, then, deeps) && goOn(1 << i, then, best, known, deeps)) {
                return i;
            }
        }
        return -1;
    }

    private int worthOf(int set) {
        int sum = 0;
        for (int i = 0; i < a.things.size(); i++) {
            sum += (set >> i & 1) * a.things.get(i).worth;
        }
        return sum;
    }

    int shelf(int room, int what) {
        if (!in(room, 0, 600) || !in(what, 0, 1)) {
            return f(Check.BEYOND);
        }
        int best = 0;
        for (int set = 0; set < 1 << a.things.size(); set++) {
            int weight = 0;
            for (int i = 0; i < a.things.size(); i++) {
                weight += (set >> i & 1) * a.things.get(i).weight;
            }
            if (weight <= room && worthOf(set) > worthOf(best)) {
                best = set;
            }
        }
        return what == 0 ? best : worthOf(best);
    }

    private int draw() {
        a.z = (int) (a.z * 1103515245L + 12345L);
        return a.z >>> 8;
    }

    int odds(int n, int t, int deep) {
        if (!in(n, 1, 20) || !in(t, 1, 200) || !in(deep, 0, 9999)) {
            return f(Check.BEYOND);
        }
        int often = 0;
        for (int i = 0; i < n; i++) {
            All b = a.copied();
            b.m[0] = draw() % 40;
            if (draw() % 4 == 0) {
                b.current = false;
            }
            b.minutes(t);
            often += b.greatest() > deep ? 1 : 0;
        }
        return often;
    }

    int seed(int v) {
        int was = a.z;
        a.z = v;
        return was;
    }

    int hold(int spot, int water) {
        if (!in(spot, 0, 9) || !in(water, -1, a.waters.size() - 1)) {
            return f(Check.BEYOND);
        }
        a.spots[spot] = water;
        return 1;
    }

    int as(int spot, int kind) {
        if (!in(spot, 0, 9) || !in(kind, 0, 6)) {
            return f(Check.BEYOND);
        }
        if (a.spots[spot] == -1) {
            return f(Check.MISSING);
        }
        String[] all = {"0", "10", "20", "320", "410", "50", "6410"};
        boolean is = all[a.waters.get(a.spots[spot]).kind].indexOf('0' + kind) >= 0;
        return is ? a.spots[spot] : f(Check.KIND);
    }

    int sheet(int s, int b, int n) {
        if (!in(s, 0, 3) || b != 0 && b != 8 && b != 16 && b != 32) {
            return f(Check.BEYOND);
        }
        if (n < 0) {
            return f(Check.SIZE);
        }
        if (n > 40) {
            return f(Check.BEYOND);
        }
        bits[s] = b;
        sheets[s] = b == 0 ? null : new int[n];
        return b == 0 ? 0 : n;
    }

    int write(int s, int i, int v) {
        if (!in(s, 0, 3)) {
            return f(Check.BEYOND);
        }
        if (sheets[s] == null) {
            return f(Check.MISSING);
        }
        if (!in(i, 0, sheets[s].length - 1)) {
            return f(Check.BEYOND);
        }
        sheets[s][i] = v << 32 - bits[s] >> 32 - bits[s];
        return 1;
    }

    int copy(int s, int from, int t, int to, int n) {
        if (!in(s, 0, 3) || !in(t, 0, 3)) {
            return f(Check.BEYOND);
        }
        if (sheets[s] == null || sheets[t] == null) {
            return f(Check.MISSING);
        }
        if (bits[s] != bits[t]) {
            return f(Check.KIND);
        }
        if (from < 0 || to < 0 || n < 0 || (long) from + n > sheets[s].length || (long) to + n > sheets[t].length) {
            return f(Check.BEYOND);
        }
        int[] were = Arrays.copyOfRange(sheets[s], from, from + n);
        for (int i = 0; i < n; i++) {
            sheets[t][to + i] = were[i];
        }
        return n;
    }

    int load(int s) {
        if (!in(s, 0, 3)) {
            return f(Check.BEYOND);
        }
        if (sheets[s] == null) {
            return f(Check.MISSING);
        }
        int went = 0;
        for (int v : sheets[s]) {
            if (!in(v, 0, 99)) {
                break;
            }
            a.m[0] = v;
            a.minutes(1);
            went++;
        }
        return went;
    }

    int judge(int s) {
        if (!in(s, 0, 3)) {
            return f(Check.BEYOND);
        }
        if (sheets[s] == null) {
            return f(Check.MISSING);
        }
        List<Integer> deeps = after(40).deeps;
        for (int i = 0; i < sheets[s].length; i++) {
            if (sheets[s][i] != deeps.get(i)) {
                return i + 1;
            }
        }
        return 0;
    }

    int image() {
        kept = a.copied();
        return 1;
    }

    int undo() {
        if (kept == null) {
            return f(Check.NONE);
        }
        a = kept.copied();
        return a.minute;
    }

    int tear() {
        int was = kept == null ? 0 : 1;
        kept = null;
        return was;
    }

    int count(int what) {
        if (!in(what, 0, 7)) {
            return f(Check.BEYOND);
        }
        int lifted = 0;
        for (Thing t : a.things) {
            lifted += t.lifted ? 1 : 0;
        }
        return new int[] {a.waters.size(), a.things.size(), a.skies.size(), log().size(), built(), tape.size(), a.z,
            lifted}[what];
    }

    int status(int which) {
        if (!in(which, -1, 6)) {
            return f(Check.BEYOND);
        }
        return which == -1 ? Arrays.stream(found).sum() : found[which];
    }
}

import java.util.Arrays;

/**
 * A cellar that takes in water, the pump that empties it, the things that stand in it, and the nights ahead.
 * What each call answers stands in the document. All rows are made with the object and used again, since all
 * calls of a run share one room: no call makes an object.
 */
public final class CellarPump {
    private static final int BEYOND = -1000001;
    private static final int FULL = BEYOND - 1;
    private static final int KIND = BEYOND - 2;
    private static final int NONE = BEYOND - 3;
    private static final int STATE = BEYOND - 4;
    private static final int MISSING = BEYOND - 5;
    private static final int SIZE = BEYOND - 6;
    private static final int FINDINGS = 7;

    private static final int MOST_WATERS = 8;
    private static final int MOST_FLOW = 99;
    private static final int MOST_MARK = 999;
    private static final int MOST_DEEP = 9999;
    private static final int MOST_MINUTES = 200;
    private static final int MOST_AHEAD = 400;
    private static final int MOST_NIGHTS = 20;
    private static final int MOST_ON_TRIED = 200;
    private static final int MOST_RATE = 99;
    private static final int MOST_LOGGED = 40;
    private static final int MOST_THINGS = 10;
    private static final int MOST_WORTH = 99;
    private static final int MOST_WEIGHT = 60;
    private static final int MOST_HEIGHT = 999;
    private static final int MOST_ROOM = 600;
    private static final int MOST_BYTES = 100;
    private static final int MOST_SKIES = 6;
    private static final int MOST_DEEDS = 12;
    private static final int MOST_COST = 999;
    private static final int MOST_COIN = 9999;
    private static final int SPOTS = 10;
    private static final int SHEETS = 4;
    private static final int MOST_NUMBERS = 40;

    private static final int WATER = 0;
    private static final int GROUNDS = 1;
    private static final int STEPPED = 2;
    private static final int BACKED = 3;
    private static final int SEEPED = 4;
    private static final int BURST = 5;
    private static final int NEIGHBOURS = 6;
    private static final int KINDS = 7;
    private static final int[] KIND_ABOVE = {-1, WATER, WATER, STEPPED, GROUNDS, WATER, SEEPED};

    private static final int RAIN = 0;
    private static final int GROUND = 1;
    private static final int DEEP = 2;
    private static final int ON = 3;
    private static final int OFF = 4;
    private static final int RATE = 5;
    private static final int LIFE = 6;
    private static final int BATTERY = 7;
    private static final int[] LEAST_SET = {0, 0, 0, 1, 0, 1, 1, 0};
    private static final int[] MOST_SET = {99, 999, 9999, 999, 998, 99, 999, 999};

    private static final int DITCH = 0;
    private static final int VALVE = 1;
    private static final int SECOND = 2;
    private static final int CELLS = 3;
    private static final int WORKS = 4;
    private static final int MOST_BATTERY = 999;
    private static final int CELLS_MINUTES = 240;

    private static final int DEED_RAIN = 0;
    private static final int DEED_WAIT = 1;
    private static final int DEED_CURRENT = 2;
    private static final int DEED_FLAP = 3;
    private static final int DEED_BATTERY = 4;
    private static final int DEED_BAIL = 5;
    private static final int DEED_KINDS = 6;
    private static final int[] LEAST_OF_DEED = {0, 1, 0, 0, 0, 0};
    private static final int[] MOST_OF_DEED = {99, 60, 1, 1, 999, 999};

    private final int[] found = new int[FINDINGS];
    private final House house = new House();
    private final House kept = new House();
    private boolean isKept;
    private final Tape tape = new Tape();
    private final Reader reader = new Reader(tape);
    private final Sheet[] sheets = new Sheet[SHEETS];
    private final Nights nights = new Nights(house.cellar);
    private final Choice choice = new Choice(house.cellar.things);

    public CellarPump() {
        for (int s = 0; s < SHEETS; s++) {
            sheets[s] = new Sheet();
        }
    }

    // ---- waters

    public int water(int kind, int flow, int mark) {
        if (!within(kind, 0, KINDS - 1) || !within(flow, 1, MOST_FLOW) || !within(mark, 0, MOST_MARK)) {
            return tell(BEYOND);
        }
        if (house.cellar.waters.count >= MOST_WATERS) {
            return tell(FULL);
        }
        return house.cellar.waters.add(kind, flow, mark);
    }

    public int waterOf(int water, int what) {
        if (!isWater(water) || !within(what, 0, 4)) {
            return tell(BEYOND);
        }
        Waters waters = house.cellar.waters;
        switch (what) {
            case 0: return waters.kind[water];
            case 1: return waters.flow[water];
            case 2: return waters.mark[water];
            case 3: return house.cellar.comesOf(water);
            default: return waters.brought[water];
        }
    }

    public int change(int water, int what, int v) {
        if (!isWater(water) || !within(what, 1, 2)) {
            return tell(BEYOND);
        }
        boolean isFlow = what == 1;
        if (!within(v, isFlow ? 1 : 0, isFlow ? MOST_FLOW : MOST_MARK)) {
            return tell(BEYOND);
        }
        int[] row = isFlow ? house.cellar.waters.flow : house.cellar.waters.mark;
        int was = row[water];
        row[water] = v;
        return was;
    }

    public int set(int what, int v) {
        if (!within(what, RAIN, BATTERY) || !within(v, LEAST_SET[what], MOST_SET[what])
                || !house.cellar.pump.marksFit(what, v)) {
            return tell(BEYOND);
        }
        int was = house.cellar.measure(what);
        house.cellar.putMeasure(what, v);
        return was;
    }

    public int current(boolean is) {
        Pump pump = house.cellar.pump;
        int was = bit(pump.hasCurrent);
        pump.hasCurrent = is;
        return was;
    }

    public int flap(boolean sticks) {
        Cellar cellar = house.cellar;
        if (sticks && cellar.has(VALVE)) {
            return tell(STATE);
        }
        int was = bit(cellar.flapSticks);
        cellar.flapSticks = sticks;
        return was;
    }

    public int minutes(int n) {
        if (!within(n, 1, MOST_MINUTES)) {
            return tell(BEYOND);
        }
        house.cellar.passMinutes(n);
        return house.cellar.deep;
    }

    public int now(int what) {
        if (!within(what, 0, 16)) {
            return tell(BEYOND);
        }
        Cellar cellar = house.cellar;
        switch (what) {
            case 8: return cellar.minute;
            case 9: return cellar.pump.starts;
            case 10: return bit(cellar.pump.runs);
            case 11: return bit(cellar.pump.isDead());
            case 12: return cellar.cameInAll;
            case 13: return cellar.pump.pumped;
            case 14: return cellar.ranOver;
            case 15: return bit(cellar.pump.hasCurrent);
            case 16: return bit(cellar.flapSticks);
            default: return cellar.measure(what);
        }
    }

    public int renew() {
        Pump pump = house.cellar.pump;
        int was = pump.starts;
        pump.starts = 0;
        pump.runs = false;
        return was;
    }

    public int start(int i) {
        Pump pump = house.cellar.pump;
        if (!within(i, 0, pump.logged() - 1)) {
            return tell(BEYOND);
        }
        return pump.log[i];
    }

    public int quickest() {
        Pump pump = house.cellar.pump;
        if (pump.logged() < 2) {
            return tell(NONE);
        }
        return pump.leastBetweenStarts();
    }

    public int came() {
        if (house.cellar.waters.count == 0) {
            return tell(NONE);
        }
        return house.cellar.waters.mostBrought();
    }

    // ---- things

    public int thing(int worth, int weight, int height) {
        if (!within(worth, 1, MOST_WORTH) || !within(weight, 1, MOST_WEIGHT) || !within(height, 0, MOST_HEIGHT)) {
            return tell(BEYOND);
        }
        if (house.cellar.things.count >= MOST_THINGS) {
            return tell(FULL);
        }
        return house.cellar.things.add(worth, weight, height);
    }

    public int thingOf(int thing, int what) {
        if (!isThing(thing) || !within(what, 0, 4)) {
            return tell(BEYOND);
        }
        Things things = house.cellar.things;
        switch (what) {
            case 0: return things.worth[thing];
            case 1: return things.weight[thing];
            case 2: return things.height[thing];
            case 3: return bit(things.isLifted(thing));
            default: return bit(things.isHarmed(thing));
        }
    }

    public int lift(int thing) {
        if (!isThing(thing)) {
            return tell(BEYOND);
        }
        Things things = house.cellar.things;
        if (things.isLifted(thing) || things.isHarmed(thing)) {
            return tell(STATE);
        }
        house.cellar.passMinutes(things.weight[thing]);
        things.lifted |= 1 << thing;
        return house.cellar.deep;
    }

    public int down(int thing, int height) {
        if (!isThing(thing) || !within(height, 0, MOST_HEIGHT)) {
            return tell(BEYOND);
        }
        Things things = house.cellar.things;
        int was = bit(things.isLifted(thing));
        things.height[thing] = height;
        things.lifted &= ~(1 << thing);
        return was;
    }

    public int harm() {
        return house.cellar.things.harmedWorth();
    }

    // ---- skies

    public int feed(int bytes, int n) {
        if (!within(n, 1, 4)) {
            return tell(BEYOND);
        }
        if (tape.size + n > MOST_BYTES) {
            return tell(FULL);
        }
        tape.append(bytes, n);
        return tape.size;
    }

    public int wipe() {
        int was = tape.size;
        tape.size = 0;
        return was;
    }

    public int sky() {
        if (house.skies.count >= MOST_SKIES) {
            return tell(FULL);
        }
        int fault = reader.readSky(house.skies);
        tape.size = 0;
        return fault == Reader.NO_FAULT ? house.skies.count - 1 : -1 - fault;
    }

    public int skyOf(int sky, int what) {
        if (!isSky(sky) || !within(what, 0, 1)) {
            return tell(BEYOND);
        }
        return what == 0 ? house.skies.length[sky] : house.skies.minutesOf(sky);
    }

    public int play(int sky) {
        if (!isSky(sky)) {
            return tell(BEYOND);
        }
        house.skies.perform(sky, house.cellar);
        return house.cellar.deep;
    }

    // ---- nights ahead

    public int ahead(int n, int what) {
        if (!within(n, 0, MOST_AHEAD) || !within(what, 0, 3)) {
            return tell(BEYOND);
        }
        return nights.behindMinutes(n, what);
    }

    public int under(int sky, int what) {
        if (!isSky(sky) || !within(what, 0, 3)) {
            return tell(BEYOND);
        }
        return nights.behindSky(house.skies, sky, what);
    }

    public int reaches(int deep) {
        if (!within(deep, 0, MOST_DEEP)) {
            return tell(BEYOND);
        }
        return orNone(nights.firstMinuteAbove(deep));
    }

    public int bestOn(int n, int most) {
        if (!isTrial(n, most)) {
            return tell(BEYOND);
        }
        return orNone(nights.bestOnMark(n, most));
    }

    public int rateFor(int n, int most) {
        if (!isTrial(n, most)) {
            return tell(BEYOND);
        }
        return orNone(nights.leastRate(n, most));
    }

    public int batteryFor(int n, int most) {
        if (!isTrial(n, most)) {
            return tell(BEYOND);
        }
        return orNone(nights.leastBattery(n, most));
    }

    // ---- works

    public int cost(int work, int v) {
        if (!within(work, 0, WORKS - 1) || !within(v, 0, MOST_COST)) {
            return tell(BEYOND);
        }
        int was = house.cellar.costs[work];
        house.cellar.costs[work] = v;
        return was;
    }

    public int build(int work) {
        if (!within(work, 0, WORKS - 1)) {
            return tell(BEYOND);
        }
        if (house.cellar.has(work)) {
            return tell(STATE);
        }
        house.cellar.construct(work);
        return house.cellar.built;
    }

    public int worth(int sky, int coin, int what) {
        if (!isSky(sky) || !within(coin, 0, MOST_COIN) || !within(what, 0, 1)) {
            return tell(BEYOND);
        }
        return nights.bestWorks(house.skies, sky, coin, what);
    }

    // ---- lifting, shelves, odds

    public int rescue(int what) {
        if (!within(what, 0, 2)) {
            return tell(BEYOND);
        }
        nights.foreseeLimits(choice.limit);
        return choice.liftable(what);
    }

    public int shelf(int room, int what) {
        if (!within(room, 0, MOST_ROOM) || !within(what, 0, 1)) {
            return tell(BEYOND);
        }
        return choice.shelved(room, what);
    }

    public int odds(int n, int t, int deep) {
        if (!within(n, 1, MOST_NIGHTS) || !within(t, 1, MOST_MINUTES) || !within(deep, 0, MOST_DEEP)) {
            return tell(BEYOND);
        }
        int often = 0;
        for (int i = 0; i < n; i++) {
            int rain = house.draw() % 40;
            boolean currentStops = house.draw() % 4 == 0;
            if (nights.risesAbove(rain, currentStops, t, deep)) {
                often++;
            }
        }
        return often;
    }

    public int seed(int v) {
        int was = house.z;
        house.z = v;
        return was;
    }

    // ---- spots, sheets

    public int hold(int spot, int water) {
        if (!within(spot, 0, SPOTS - 1) || water != House.NOTHING && !isWater(water)) {
            return tell(BEYOND);
        }
        house.spots[spot] = water;
        return 1;
    }

    public int as(int spot, int kind) {
        if (!within(spot, 0, SPOTS - 1) || !within(kind, 0, KINDS - 1)) {
            return tell(BEYOND);
        }
        int water = house.spots[spot];
        if (!isWater(water)) {
            return tell(MISSING);
        }
        return house.cellar.waters.isOfKind(water, kind) ? water : tell(KIND);
    }

    public int sheet(int s, int bits, int n) {
        if (!isSheet(s) || bits != 0 && bits != 8 && bits != 16 && bits != 32) {
            return tell(BEYOND);
        }
        if (n < 0) {
            return tell(SIZE);
        }
        if (n > MOST_NUMBERS) {
            return tell(BEYOND);
        }
        sheets[s].layOut(bits, n);
        return sheets[s].size;
    }

    public int write(int s, int i, int v) {
        if (!isSheet(s)) {
            return tell(BEYOND);
        }
        if (sheets[s].isMissing()) {
            return tell(MISSING);
        }
        if (!within(i, 0, sheets[s].size - 1)) {
            return tell(BEYOND);
        }
        sheets[s].put(i, v);
        return 1;
    }

    public int copy(int s, int from, int t, int to, int n) {
        if (!isSheet(s) || !isSheet(t)) {
            return tell(BEYOND);
        }
        if (sheets[s].isMissing() || sheets[t].isMissing()) {
            return tell(MISSING);
        }
        if (sheets[s].bits != sheets[t].bits) {
            return tell(KIND);
        }
        if (!sheets[s].hasRange(from, n) || !sheets[t].hasRange(to, n)) {
            return tell(BEYOND);
        }
        System.arraycopy(sheets[s].numbers, from, sheets[t].numbers, to, n);
        return n;
    }

    public int load(int s) {
        if (!isSheet(s)) {
            return tell(BEYOND);
        }
        if (sheets[s].isMissing()) {
            return tell(MISSING);
        }
        int went = 0;
        while (went < sheets[s].size && within(sheets[s].numbers[went], LEAST_SET[RAIN], MOST_SET[RAIN])) {
            house.cellar.rain = sheets[s].numbers[went];
            house.cellar.passMinute();
            went++;
        }
        return went;
    }

    public int judge(int s) {
        if (!isSheet(s)) {
            return tell(BEYOND);
        }
        if (sheets[s].isMissing()) {
            return tell(MISSING);
        }
        return nights.firstMisjudged(sheets[s]);
    }

    // ---- images

    public int image() {
        kept.becomeLike(house);
        isKept = true;
        return 1;
    }

    public int undo() {
        if (!isKept) {
            return tell(NONE);
        }
        house.becomeLike(kept);
        return house.cellar.minute;
    }

    public int tear() {
        int was = bit(isKept);
        isKept = false;
        return was;
    }

    public int count(int what) {
        switch (what) {
            case 0: return house.cellar.waters.count;
            case 1: return house.cellar.things.count;
            case 2: return house.skies.count;
            case 3: return house.cellar.pump.logged();
            case 4: return house.cellar.built;
            case 5: return tape.size;
            case 6: return house.z;
            case 7: return Integer.bitCount(house.cellar.things.lifted);
            default: return tell(BEYOND);
        }
    }

    public int status(int which) {
        if (!within(which, -1, FINDINGS - 1)) {
            return tell(BEYOND);
        }
        if (which >= 0) {
            return found[which];
        }
        int all = 0;
        for (int i = 0; i < FINDINGS; i++) {
            all += found[i];
        }
        return all;
    }

    private int tell(int finding) {
        found[BEYOND - finding]++;
        return finding;
    }

    private int orNone(int answer) {
        return answer == Nights.NEVER ? tell(NONE) : answer;
    }

    private boolean isWater(int water) {
        return within(water, 0, house.cellar.waters.count - 1);
    }

    private boolean isThing(int thing) {
        return within(thing, 0, house.cellar.things.count - 1);
    }

    private boolean isSky(int sky) {
        return within(sky, 0, house.skies.count - 1);
    }

    private static boolean isSheet(int s) {
        return within(s, 0, SHEETS - 1);
    }

    private static boolean isTrial(int n, int most) {
        return within(n, 1, MOST_MINUTES) && within(most, 0, MOST_DEEP);
    }

    private static boolean within(int v, int least, int most) {
        return v >= least && v <= most;
    }

    private static int bit(boolean is) {
        return is ? 1 : 0;
    }

    /** All that an image keeps. */
    private static final class House {
        static final int NOTHING = -1;

        final Cellar cellar = new Cellar();
        final Skies skies = new Skies();
        final int[] spots = new int[SPOTS];
        int z = 1;

        House() {
            Arrays.fill(spots, NOTHING);
        }

        int draw() {
            z = z * 1103515245 + 12345;
            return z >>> 8;
        }

        void becomeLike(House other) {
            cellar.becomeLike(other.cellar);
            skies.becomeLike(other.skies);
            System.arraycopy(other.spots, 0, spots, 0, SPOTS);
            z = other.z;
        }
    }

    /** All that a night ahead may change. */
    private static final class Cellar {
        final Waters waters = new Waters();
        final Pump pump = new Pump();
        final Things things = new Things();
        final int[] costs = {100, 100, 100, 100};
        int built;
        boolean flapSticks;
        int rain;
        int ground = 100;
        int deep;
        int minute;
        int cameInAll;
        int ranOver;
        /** The greatest DEEP behind a MINUTE, for nights ahead, which begin it at 0. */
        int greatest;

        boolean has(int work) {
            return (built & 1 << work) != 0;
        }

        void construct(int work) {
            built |= 1 << work;
            switch (work) {
                case VALVE:
                    flapSticks = false;
                    break;
                case SECOND:
                    pump.countsTwice = true;
                    break;
                case CELLS:
                    pump.battery = Math.min(MOST_BATTERY, pump.battery + CELLS_MINUTES);
                    break;
                default:
                    break;
            }
        }

        void constructAll(int works) {
            for (int work = 0; work < WORKS; work++) {
                if ((works & 1 << work) != 0) {
                    construct(work);
                }
            }
        }

        int costOf(int works) {
            int sum = 0;
            for (int work = 0; work < WORKS; work++) {
                if ((works & 1 << work) != 0) {
                    sum += costs[work];
                }
            }
            return sum;
        }

        int measure(int what) {
            switch (what) {
                case RAIN: return rain;
                case GROUND: return ground;
                case DEEP: return deep;
                case ON: return pump.on;
                case OFF: return pump.off;
                case RATE: return pump.rate;
                case LIFE: return pump.life;
                default: return pump.battery;
            }
        }

        void putMeasure(int what, int v) {
            switch (what) {
                case RAIN: rain = v; break;
                case GROUND: ground = v; break;
                case DEEP: deep = v; break;
                case ON: pump.on = v; break;
                case OFF: pump.off = v; break;
                case RATE: pump.rate = v; break;
                case LIFE: pump.life = v; break;
                default: pump.battery = v; break;
            }
        }

        int comesOf(int water) {
            int flow = waters.flow[water];
            int mark = waters.mark[water];
            boolean isDitched = has(DITCH);
            int ofGround = isDitched ? flow * ground / 100 / 2 : flow * ground / 100;
            switch (waters.kind[water]) {
                case GROUNDS: return ofGround;
                case STEPPED: return flow * Math.max(0, rain - mark);
                case BACKED: return flapSticks ? flow * Math.max(0, rain - mark) : 0;
                case SEEPED: return ofGround / 2;
                case BURST: return minute >= mark ? flow : 0;
                case NEIGHBOURS: return ofGround / 2 + (isDitched ? flow : 0);
                default: return flow;
            }
        }

        void passMinutes(int n) {
            for (int i = 0; i < n; i++) {
                passMinute();
            }
        }

        void passMinute() {
            soakGround();
            deep += takeIn();
            if (deep > MOST_DEEP) {
                ranOver += deep - MOST_DEEP;
                deep = MOST_DEEP;
            }
            deep = pump.leaves(deep, minute);
            minute++;
            things.standIn(deep);
            greatest = Math.max(greatest, deep);
        }

        void soakGround() {
            ground += rain;
            ground -= ground / 50;
            ground = Math.min(ground, MOST_SET[GROUND]);
        }

        int takeIn() {
            int sum = 0;
            for (int i = 0; i < waters.count; i++) {
                int comes = comesOf(i);
                waters.brought[i] += comes;
                sum += comes;
            }
            cameInAll += sum;
            return sum;
        }

        /** What a DEED does at once: wait does nothing. */
        void undergo(int deed, int value) {
            switch (deed) {
                case DEED_RAIN: rain = value; break;
                case DEED_CURRENT: pump.hasCurrent = value == 1; break;
                case DEED_FLAP: flapSticks = value == 1 && !has(VALVE); break;
                case DEED_BATTERY: pump.battery = value; break;
                case DEED_BAIL: deep = Math.max(0, deep - value); break;
                default: break;
            }
        }

        void becomeLike(Cellar other) {
            waters.becomeLike(other.waters);
            pump.becomeLike(other.pump);
            things.becomeLike(other.things);
            System.arraycopy(other.costs, 0, costs, 0, WORKS);
            built = other.built;
            flapSticks = other.flapSticks;
            rain = other.rain;
            ground = other.ground;
            deep = other.deep;
            minute = other.minute;
            cameInAll = other.cameInAll;
            ranOver = other.ranOver;
            greatest = other.greatest;
        }
    }

    private static final class Waters {
        int count;
        final int[] kind = new int[MOST_WATERS];
        final int[] flow = new int[MOST_WATERS];
        final int[] mark = new int[MOST_WATERS];
        final int[] brought = new int[MOST_WATERS];

        int add(int newKind, int newFlow, int newMark) {
            kind[count] = newKind;
            flow[count] = newFlow;
            mark[count] = newMark;
            brought[count] = 0;
            count++;
            return count - 1;
        }

        int mostBrought() {
            int best = 0;
            for (int i = 1; i < count; i++) {
                if (brought[i] > brought[best]) {
                    best = i;
                }
            }
            return best;
        }

        boolean isOfKind(int water, int wanted) {
            int at = kind[water];
            for (int i = 0; i < KINDS && at >= 0; i++) {
                if (at == wanted) {
                    return true;
                }
                at = KIND_ABOVE[at];
            }
            return false;
        }

        void becomeLike(Waters other) {
            count = other.count;
            System.arraycopy(other.kind, 0, kind, 0, count);
            System.arraycopy(other.flow, 0, flow, 0, count);
            System.arraycopy(other.mark, 0, mark, 0, count);
            System.arraycopy(other.brought, 0, brought, 0, count);
        }
    }

    private static final class Pump {
        int on = 50;
        int off = 10;
        int rate = 20;
        int life = 500;
        int battery;
        boolean hasCurrent = true;
        boolean countsTwice;
        boolean runs;
        int starts;
        int pumped;
        final int[] log = new int[MOST_LOGGED];

        boolean isDead() {
            return starts > life;
        }

        boolean hasPower() {
            return hasCurrent || battery > 0;
        }

        boolean marksFit(int what, int v) {
            return what == ON ? off < v : what != OFF || v < on;
        }

        int logged() {
            return Math.min(starts, MOST_LOGGED);
        }

        int leastBetweenStarts() {
            int least = log[1] - log[0];
            for (int i = 2; i < logged(); i++) {
                least = Math.min(least, log[i] - log[i - 1]);
            }
            return least;
        }

        /** What is left of a water so deep behind the pump's part of a MINUTE. */
        int leaves(int deep, int minute) {
            if (!runs && deep >= on && hasPower() && !isDead()) {
                begin(minute);
            }
            if (!runs) {
                return deep;
            }
            if (!hasPower()) {
                runs = false;
                return deep;
            }
            if (!hasCurrent) {
                battery--;
            }
            int drawn = Math.min(deep, countsTwice ? 2 * rate : rate);
            pumped += drawn;
            runs = deep - drawn > off;
            return deep - drawn;
        }

        private void begin(int minute) {
            if (starts < MOST_LOGGED) {
                log[starts] = minute;
            }
            starts++;
            runs = !isDead();
        }

        void becomeLike(Pump other) {
            on = other.on;
            off = other.off;
            rate = other.rate;
            life = other.life;
            battery = other.battery;
            hasCurrent = other.hasCurrent;
            countsTwice = other.countsTwice;
            runs = other.runs;
            starts = other.starts;
            pumped = other.pumped;
            System.arraycopy(other.log, 0, log, 0, other.logged());
        }
    }

    private static final class Things {
        int count;
        final int[] worth = new int[MOST_THINGS];
        final int[] weight = new int[MOST_THINGS];
        final int[] height = new int[MOST_THINGS];
        int lifted;
        int harmed;

        int add(int newWorth, int newWeight, int newHeight) {
            worth[count] = newWorth;
            weight[count] = newWeight;
            height[count] = newHeight;
            count++;
            return count - 1;
        }

        boolean isLifted(int thing) {
            return (lifted & 1 << thing) != 0;
        }

        boolean isHarmed(int thing) {
            return (harmed & 1 << thing) != 0;
        }

        void standIn(int deep) {
            for (int i = 0; i < count; i++) {
                if (deep > height[i] && (lifted & 1 << i) == 0) {
                    harmed |= 1 << i;
                }
            }
        }

        int harmedWorth() {
            int sum = 0;
            for (int i = 0; i < count; i++) {
                if (isHarmed(i)) {
                    sum += worth[i];
                }
            }
            return sum;
        }

        void becomeLike(Things other) {
            count = other.count;
            System.arraycopy(other.worth, 0, worth, 0, count);
            System.arraycopy(other.weight, 0, weight, 0, count);
            System.arraycopy(other.height, 0, height, 0, count);
            lifted = other.lifted;
            harmed = other.harmed;
        }
    }

    private static final class Skies {
        int count;
        final int[] length = new int[MOST_SKIES];
        final int[] deeds = new int[MOST_SKIES * MOST_DEEDS];
        final int[] values = new int[MOST_SKIES * MOST_DEEDS];

        /** A DEED of the SKY that comes next; it doesn't count before that SKY is added. */
        void putNext(int i, int deed, int value) {
            deeds[count * MOST_DEEDS + i] = deed;
            values[count * MOST_DEEDS + i] = value;
        }

        void addNext(int howMany) {
            length[count] = howMany;
            count++;
        }

        int minutesOf(int sky) {
            int sum = 0;
            int first = sky * MOST_DEEDS;
            for (int at = first; at < first + length[sky]; at++) {
                if (deeds[at] == DEED_WAIT) {
                    sum += values[at];
                }
            }
            return sum;
        }

        void perform(int sky, Cellar cellar) {
            int first = sky * MOST_DEEDS;
            for (int at = first; at < first + length[sky]; at++) {
                int minutes = deeds[at] == DEED_WAIT ? values[at] : 0;
                for (int m = 0; m < minutes; m++) {
                    cellar.passMinute();
                }
                cellar.undergo(deeds[at], values[at]);
            }
        }

        void becomeLike(Skies other) {
            count = other.count;
            System.arraycopy(other.length, 0, length, 0, count);
            System.arraycopy(other.deeds, 0, deeds, 0, count * MOST_DEEDS);
            System.arraycopy(other.values, 0, values, 0, count * MOST_DEEDS);
        }
    }

    private static final class Tape {
        final int[] bytes = new int[MOST_BYTES];
        int size;

        void append(int number, int n) {
            for (int i = n - 1; i >= 0; i--) {
                bytes[size] = number >>> 8 * i & 255;
                size++;
            }
        }

        boolean isLetter(int at) {
            return within(bytes[at], 'a', 'z');
        }

        boolean isDigit(int at) {
            return within(bytes[at], '0', '9');
        }
    }

    /** Reads a TEXT from THE TAPE, TOKEN by TOKEN. */
    private static final class Reader {
        static final int NO_FAULT = -1;
        private static final int NOT_AS_TOLD = -1;
        private static final int MOST_VALUE = 999;
        private static final int END = 0;
        private static final int WORD = 1;
        private static final int NUMBER = 2;
        private static final int SIGN = 3;
        private static final int OTHER = 4;

        private final Tape tape;
        private int token;
        private int begin;
        private int end;
        private int value;

        Reader(Tape tape) {
            this.tape = tape;
        }

        /** The FAULT; if there is none, the TEXT is a new one of the SKIES. */
        int readSky(Skies skies) {
            end = 0;
            for (int i = 0; i < MOST_DEEDS; i++) {
                if (!readDeed(skies, i)) {
                    return begin;
                }
                readToken();
                if (token == END) {
                    skies.addNext(i + 1);
                    return NO_FAULT;
                }
                if (token != SIGN) {
                    return begin;
                }
            }
            readToken();
            return begin;
        }

        private boolean readDeed(Skies skies, int i) {
            readToken();
            int deed = deedTold();
            if (deed == NOT_AS_TOLD) {
                return false;
            }
            readToken();
            int told = valueTold(deed);
            if (told == NOT_AS_TOLD) {
                return false;
            }
            skies.putNext(i, deed, told);
            return true;
        }

        private int deedTold() {
            for (int deed = 0; deed < DEED_KINDS; deed++) {
                if (isWord(wordOf(deed))) {
                    return deed;
                }
            }
            return NOT_AS_TOLD;
        }

        private static String wordOf(int deed) {
            switch (deed) {
                case DEED_RAIN: return "rain";
                case DEED_WAIT: return "wait";
                case DEED_CURRENT: return "current";
                case DEED_FLAP: return "flap";
                case DEED_BATTERY: return "battery";
                default: return "bail";
            }
        }

        private int valueTold(int deed) {
            switch (deed) {
                case DEED_CURRENT: return oneOf("on", "off");
                case DEED_FLAP: return oneOf("sticks", "shuts");
                default: break;
            }
            boolean isAsTold = token == NUMBER && within(value, LEAST_OF_DEED[deed], MOST_OF_DEED[deed]);
            return isAsTold ? value : NOT_AS_TOLD;
        }

        private int oneOf(String yes, String no) {
            if (isWord(yes)) {
                return 1;
            }
            return isWord(no) ? 0 : NOT_AS_TOLD;
        }

        private boolean isWord(String word) {
            if (token != WORD || end - begin != word.length()) {
                return false;
            }
            for (int i = 0; i < word.length(); i++) {
                if (tape.bytes[begin + i] != word.charAt(i)) {
                    return false;
                }
            }
            return true;
        }

        private void readToken() {
            while (end < tape.size && tape.bytes[end] == ' ') {
                end++;
            }
            begin = end;
            if (begin >= tape.size) {
                token = END;
            } else if (tape.isLetter(begin)) {
                readWord();
            } else if (tape.isDigit(begin)) {
                readNumber();
            } else {
                token = tape.bytes[begin] == ';' ? SIGN : OTHER;
                end++;
            }
        }

        private void readWord() {
            token = WORD;
            while (end < tape.size && tape.isLetter(end)) {
                end++;
            }
        }

        private void readNumber() {
            token = NUMBER;
            value = 0;
            while (end < tape.size && tape.isDigit(end)) {
                // Kept just above the most, so that no row of digits makes it wrap around.
                value = Math.min(MOST_VALUE + 1, value * 10 + tape.bytes[end] - '0');
                end++;
            }
        }
    }

    private static final class Sheet {
        int bits;
        int size;
        final int[] numbers = new int[MOST_NUMBERS];

        boolean isMissing() {
            return bits == 0;
        }

        void layOut(int newBits, int n) {
            bits = newBits;
            size = newBits == 0 ? 0 : n;
            Arrays.fill(numbers, 0);
        }

        void put(int i, int v) {
            switch (bits) {
                case 8: numbers[i] = (byte) v; break;
                case 16: numbers[i] = (short) v; break;
                default: numbers[i] = v; break;
            }
        }

        /** A difference, since from and n together may be more than an int holds. */
        boolean hasRange(int from, int n) {
            return from >= 0 && n >= 0 && from <= size && n <= size - from;
        }
    }

    /** Nights ahead, tried on a cellar of their own that begins like the one there is. */
    private static final class Nights {
        static final int NEVER = -1;
        /** More MINUTES than all THINGS together take to lift. */
        static final int NO_LIMIT = MOST_THINGS * MOST_WEIGHT + 1;

        private final Cellar real;
        private final Cellar night = new Cellar();
        private final int[] inflow = new int[MOST_MINUTES];

        Nights(Cellar real) {
            this.real = real;
        }

        private void begin() {
            night.becomeLike(real);
            night.greatest = 0;
        }

        private int outcome(int what) {
            switch (what) {
                case 0: return night.deep;
                case 1: return night.greatest;
                case 2: return night.pump.starts - real.pump.starts;
                default: return night.things.harmedWorth();
            }
        }

        int behindMinutes(int n, int what) {
            begin();
            night.passMinutes(n);
            return outcome(what);
        }

        int behindSky(Skies skies, int sky, int what) {
            begin();
            skies.perform(sky, night);
            return outcome(what);
        }

        int firstMinuteAbove(int deep) {
            begin();
            for (int m = 1; m <= MOST_AHEAD; m++) {
                night.passMinute();
                if (night.deep > deep) {
                    return m;
                }
            }
            return NEVER;
        }

        boolean risesAbove(int rain, boolean currentStops, int t, int deep) {
            begin();
            night.rain = rain;
            if (currentStops) {
                night.pump.hasCurrent = false;
            }
            for (int m = 0; m < t; m++) {
                night.passMinute();
                if (night.deep > deep) {
                    return true;
                }
            }
            return false;
        }

        int firstMisjudged(Sheet sheet) {
            begin();
            for (int i = 0; i < sheet.size; i++) {
                night.passMinute();
                if (night.deep != sheet.numbers[i]) {
                    return 1 + i;
                }
            }
            return 0;
        }

        int bestOnMark(int n, int most) {
            foreseeInflow(n);
            int best = NEVER;
            int fewest = MOST_MINUTES + 1;
            for (int on = real.pump.off + 1; on <= MOST_ON_TRIED; on++) {
                night.pump.becomeLike(real.pump);
                night.pump.on = on;
                if (staysWithin(n, most) && night.pump.starts - real.pump.starts < fewest) {
                    best = on;
                    fewest = night.pump.starts - real.pump.starts;
                }
            }
            return best;
        }

        int leastRate(int n, int most) {
            foreseeInflow(n);
            for (int rate = 1; rate <= MOST_RATE; rate++) {
                night.pump.becomeLike(real.pump);
                night.pump.rate = rate;
                if (staysWithin(n, most)) {
                    return rate;
                }
            }
            return NEVER;
        }

        int leastBattery(int n, int most) {
            foreseeInflow(n);
            // In n MINUTES no more than n of the battery's are used: a greater one would do no more.
            for (int battery = 0; battery <= n; battery++) {
                night.pump.becomeLike(real.pump);
                night.pump.hasCurrent = false;
                night.pump.battery = battery;
                if (staysWithin(n, most)) {
                    return battery;
                }
            }
            return NEVER;
        }

        /** What comes doesn't depend on the pump: it is found once for all pumps that are tried. */
        private void foreseeInflow(int n) {
            begin();
            for (int m = 0; m < n; m++) {
                night.soakGround();
                inflow[m] = night.takeIn();
                night.minute++;
            }
        }

        private boolean staysWithin(int n, int most) {
            int deep = real.deep;
            for (int m = 0; m < n; m++) {
                deep = night.pump.leaves(Math.min(MOST_DEEP, deep + inflow[m]), real.minute + m);
                if (deep > most) {
                    return false;
                }
            }
            return true;
        }

        int bestWorks(Skies skies, int sky, int coin, int what) {
            int best = 0;
            int leastHarm = MOST_THINGS * MOST_WORTH + 1;
            int leastCost = MOST_COIN + 1;
            for (int works = 0; works < 1 << WORKS; works++) {
                int cost = real.costOf(works);
                if ((works & real.built) != 0 || cost > coin) {
                    continue;
                }
                begin();
                night.constructAll(works);
                skies.perform(sky, night);
                int harm = night.things.harmedWorth();
                if (harm < leastHarm || harm == leastHarm && cost < leastCost) {
                    best = works;
                    leastHarm = harm;
                    leastCost = cost;
                }
            }
            return what == 0 ? best : leastHarm;
        }

        /** For each THING the MINUTES within which it must be LIFTED; none, if it is, or is HARMED. */
        void foreseeLimits(int[] limit) {
            begin();
            Things things = night.things;
            for (int i = 0; i < things.count; i++) {
                limit[i] = things.isLifted(i) || things.isHarmed(i) ? 0 : NO_LIMIT;
            }
            for (int m = 0; m < MOST_AHEAD; m++) {
                night.passMinute();
                for (int i = 0; i < things.count; i++) {
                    if (night.deep > things.height[i]) {
                        limit[i] = Math.min(limit[i], m);
                    }
                }
            }
        }
    }

    /** Which THINGS to lift, or to put on the shelf: all sets of them are looked through. */
    private static final class Choice {
        private static final int SETS = 1 << MOST_THINGS;

        final int[] limit = new int[MOST_THINGS];
        private final Things things;
        private final int[] weights = new int[SETS];
        private final int[] worths = new int[SETS];
        private final boolean[] inTime = new boolean[SETS];

        Choice(Things things) {
            this.things = things;
        }

        private void addUp() {
            for (int i = 0; i < things.count; i++) {
                int bit = 1 << i;
                for (int set = bit; set < 2 * bit; set++) {
                    weights[set] = weights[set - bit] + things.weight[i];
                    worths[set] = worths[set - bit] + things.worth[i];
                }
            }
        }

        int shelved(int room, int what) {
            addUp();
            int best = 0;
            for (int set = 1; set < 1 << things.count; set++) {
                if (weights[set] <= room && worths[set] > worths[best]) {
                    best = set;
                }
            }
            return what == 0 ? best : worths[best];
        }

        int liftable(int what) {
            addUp();
            inTime[0] = true;
            int best = 0;
            for (int set = 1; set < 1 << things.count; set++) {
                inTime[set] = hasLast(set);
                if (inTime[set] && worths[set] > worths[best]) {
                    best = set;
                }
            }
            switch (what) {
                case 0: return best;
                case 1: return worths[best];
                default: return firstOf(best);
            }
        }

        /** A set is in time if one of it can be the last to be lifted, behind all others. */
        private boolean hasLast(int set) {
            for (int i = 0; i < things.count; i++) {
                int bit = 1 << i;
                if ((set & bit) != 0 && weights[set] <= limit[i] && inTime[set - bit]) {
                    return true;
                }
            }
            return false;
        }

        private int firstOf(int set) {
            for (int i = 0; i < things.count; i++) {
                if ((set & 1 << i) != 0 && canBeFirst(i, set)) {
                    return i;
                }
            }
            return -1;
        }

        /**
         * Of a set that is in time the first one always is; behind it the others are in time in some order if they
         * are by their limits, the shortest first.
         */
        private boolean canBeFirst(int first, int set) {
            int others = set & ~(1 << first);
            for (int i = 0; i < things.count; i++) {
                if ((others & 1 << i) != 0 && things.weight[first] + weightUpTo(limit[i], others) > limit[i]) {
                    return false;
                }
            }
            return true;
        }

        private int weightUpTo(int latest, int set) {
            int sum = 0;
            for (int i = 0; i < things.count; i++) {
                if ((set & 1 << i) != 0 && limit[i] <= latest) {
                    sum += things.weight[i];
                }
            }
            return sum;
        }
    }
}

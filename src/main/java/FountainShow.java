/**
 * A sequencer for a fountain show. The live show, the trial copy in which every "what if" is played and the two
 * slots are all made once, in the constructor, so that no call makes an object.
 */
public final class FountainShow {
    public static final int NO_SUCH = -1, BAD_VALUE = -2, BAD_TEXT = -3, TOO_MANY = -4, NOT_POSSIBLE = -5, NONE = -6;
    public static final int SIZE = 0, HEIGHT = 1, LAG = 2, SPEED = 3, PUMP = 4, DRIFT = 5;
    public static final int CAPACITY = 0, RISE = 1;
    public static final int FILTER = 0, FIRST = 1, SECOND = 2, CUT = 3, HOLD = 4, SPLASH = 5;

    private static final int MOST_NOZZLES = 12;
    private static final int INITIAL_NOZZLES = 4;
    private static final int ALL_NOZZLES = 4095;
    private static final int PUMPS = 3;
    private static final int MOST_CUES = 60;
    private static final int MOST_VALUE = 1000;
    private static final int LAST_CUE_TIME = 100000;
    private static final int LAST_TIME = 200000;
    private static final int MOST_WIND = 300;
    private static final int PAD_SIZE = 80;
    private static final int LAST_TEXT_TIME = 9999;
    private static final int LAST_LATER = 90000;

    private static final int[] NOZZLE_LEAST = {1, 1, 0, 1, 0, 0};
    private static final int[] NOZZLE_MOST = {100, 5000, 50, 1000, 2, 100};
    private static final int[] NOZZLE_INITIAL = {10, 1000, 3, 200, 0, 10};
    private static final int[] PUMP_LEAST = {0, 1};
    private static final int[] PUMP_MOST = {2000, 500};
    private static final int[] PUMP_INITIAL = {100, 20};
    private static final int[] SHOW_LEAST = {1, 0, 0, 0, 0, 0};
    private static final int[] SHOW_MOST = {64, 300, 300, 1000, 600, 5000};
    private static final int[] SHOW_INITIAL = {4, 80, 150, 500, 30, 200};

    private final Show show = new Show();
    private final Show trial = new Show();
    private final Slot firstSlot = new Slot();
    private final Slot secondSlot = new Slot();
    private final Pad pad = new Pad();

    public FountainShow() {
    }

    public int setUp(int nozzles) {
        if (!within(nozzles, 1, MOST_NOZZLES)) {
            return BAD_VALUE;
        }
        int before = show.nozzles.count;
        show.begin(nozzles);
        return before;
    }

    public int nozzle(int nozzle, int setting, int value) {
        if (!show.nozzles.has(nozzle)) {
            return NO_SUCH;
        }
        return show.nozzles.settings.change(nozzle, setting, value);
    }

    public int pump(int pump, int setting, int value) {
        if (!within(pump, 0, PUMPS - 1)) {
            return NO_SUCH;
        }
        return show.pumps.settings.change(pump, setting, value);
    }

    public int set(int setting, int value) {
        return show.settings.change(0, setting, value);
    }

    public int wind(int wind) {
        if (!within(wind, 0, MOST_WIND)) {
            return BAD_VALUE;
        }
        int before = show.weather.wind;
        show.weather.wind = wind;
        return before;
    }

    public int cue(int time, int nozzles, int value) {
        if (!within(time, 0, LAST_CUE_TIME) || !within(nozzles, 1, ALL_NOZZLES) || !within(value, 0, MOST_VALUE)) {
            return BAD_VALUE;
        }
        return show.cues.insert(time, nozzles, value);
    }

    public int remove(int cue) {
        if (!show.cues.has(cue)) {
            return NO_SUCH;
        }
        show.cues.takeOut(cue);
        return show.cues.count;
    }

    public int move(int cue, int by) {
        if (!show.cues.has(cue)) {
            return NO_SUCH;
        }
        if (!within(by, -LAST_CUE_TIME, LAST_CUE_TIME)
                || !within(show.cues.times[cue] + by, 0, LAST_CUE_TIME)) {
            return BAD_VALUE;
        }
        return show.cues.postpone(cue, by);
    }

    public int part(int cue, int what) {
        if (!show.cues.has(cue)) {
            return NO_SUCH;
        }
        switch (what) {
            case 0: return show.cues.times[cue];
            case 1: return show.cues.sets[cue];
            case 2: return show.cues.values[cue];
            default: return BAD_VALUE;
        }
    }

    public int command(int nozzles, int value) {
        if (!within(nozzles, 1, ALL_NOZZLES) || !within(value, 0, MOST_VALUE)) {
            return BAD_VALUE;
        }
        show.nozzles.obey(nozzles, value);
        return show.time;
    }

    public int tick(int ticks) {
        if (!within(ticks, 1, 2000)) {
            return BAD_VALUE;
        }
        if (show.time + ticks > LAST_TIME) {
            return NOT_POSSIBLE;
        }
        for (int i = 0; i < ticks; i++) {
            show.makeTick();
        }
        return show.time;
    }

    public int rewind() {
        int before = show.time;
        show.goBack();
        return before;
    }

    public int spray(int nozzle, int what) {
        if (!show.nozzles.has(nozzle)) {
            return NO_SUCH;
        }
        switch (what) {
            case 6: return show.nozzles.commands[nozzle];
            case 7: return show.nozzles.openings[nozzle];
            case 8: return show.nozzles.flows[nozzle];
            case 9: return show.nozzles.heights[nozzle];
            case 10: return show.nozzles.drifts[nozzle];
            case 11: return show.nozzles.greatest[nozzle];
            default: return within(what, SIZE, DRIFT) ? show.nozzles.settings.value(nozzle, what) : BAD_VALUE;
        }
    }

    public int pressure(int pump, int what) {
        if (!within(pump, 0, PUMPS - 1)) {
            return NO_SUCH;
        }
        switch (what) {
            case 2: return show.pumps.flows[pump];
            case 3: return show.pumps.demands[pump];
            case 4: return show.pumps.shortTicks[pump];
            default: return within(what, CAPACITY, RISE) ? show.pumps.settings.value(pump, what) : BAD_VALUE;
        }
    }

    public float load(int pump) {
        if (!within(pump, 0, PUMPS - 1)) {
            return -1;
        }
        int capacity = show.pumps.settings.value(pump, CAPACITY);
        return capacity == 0 ? 0 : (float) show.pumps.flows[pump] / (float) (1000 * capacity);
    }

    public double meanHeight() {
        int count = show.nozzles.count;
        return count < 1 ? 0 : (double) show.nozzles.sumOfHeights() / count;
    }

    public int state(int what) {
        switch (what) {
            case 0: return show.time;
            case 1: return show.nozzles.count;
            case 2: return show.cues.count;
            case 3: return show.weather.wind;
            case 4: return show.weather.measured();
            case 5: return show.weather.stage;
            case 6: return show.weather.calm;
            case 7: return show.wetTicks;
            case 8: return show.cues.next(show.time);
            case 9: return pad.length;
            default: return within(what, 10, 15) ? show.settings.value(0, what - 10) : BAD_VALUE;
        }
    }

    public int ahead(int ticks, int pump, int what) {
        if (!within(ticks, 1, 1000) || !within(what, 0, 4)) {
            return BAD_VALUE;
        }
        if (what <= 2 && !within(pump, 0, PUMPS - 1)) {
            return NO_SUCH;
        }
        trial.copy(show);
        switch (what) {
            case 0: return greatestDemand(ticks, pump);
            case 1: return shortTicks(ticks, pump);
            case 2: return firstShort(ticks, pump);
            case 3: return wetTicks(ticks);
            default: return greatestHeight(ticks);
        }
    }

    public int delay(int cue, int most, int ticks) {
        if (!show.cues.has(cue)) {
            return NO_SUCH;
        }
        if (!within(most, 0, 100) || !within(ticks, 1, 300)) {
            return BAD_VALUE;
        }
        int latest = Math.min(most, LAST_CUE_TIME - show.cues.times[cue]);
        for (int later = 0; later <= latest; later++) {
            trial.copy(show);
            trial.cues.postpone(cue, later);
            if (staysSupplied(ticks)) {
                return later;
            }
        }
        return NONE;
    }

    public int safeCut(int ticks) {
        if (!within(ticks, 1, 100)) {
            return BAD_VALUE;
        }
        // A lesser CUT can make a nozzle wetter, by leaving it more of its pump: so the CUTs are tried downwards.
        for (int cut = MOST_VALUE; cut >= 0; cut--) {
            trial.copy(show);
            trial.settings.change(0, CUT, cut);
            if (staysDry(ticks)) {
                return cut;
            }
            // A CUT that no goal so far went beyond has changed nothing so far: all such CUTs end as wet.
            cut = Math.min(cut, trial.nozzles.greatestCutGoal);
        }
        return NONE;
    }

    public int say(int character) {
        if (!within(character, 33, 126)) {
            return BAD_VALUE;
        }
        return pad.append((char) character);
    }

    public int wipe() {
        int before = pad.length;
        pad.length = 0;
        return before;
    }

    public int fault() {
        return pad.findFault();
    }

    public int read(int later) {
        if (pad.findFault() != NONE) {
            return BAD_TEXT;
        }
        if (!within(later, 0, LAST_LATER)) {
            return BAD_VALUE;
        }
        int described = pad.found.count;
        if (show.cues.count + described > MOST_CUES) {
            return TOO_MANY;
        }
        for (int i = 0; i < described; i++) {
            show.cues.insert(pad.found.times[i] + later, pad.found.sets[i], pad.found.values[i]);
        }
        pad.length = 0;
        return described;
    }

    public int save(int slot) {
        Slot chosen = slotAt(slot);
        if (chosen == null) {
            return BAD_VALUE;
        }
        chosen.kept.copy(show);
        chosen.filled = true;
        return show.time;
    }

    public int restore(int slot) {
        Slot chosen = slotAt(slot);
        if (chosen == null) {
            return BAD_VALUE;
        }
        if (!chosen.filled) {
            return NOT_POSSIBLE;
        }
        show.copy(chosen.kept);
        return show.time;
    }

    private Slot slotAt(int slot) {
        switch (slot) {
            case 0: return firstSlot;
            case 1: return secondSlot;
            default: return null;
        }
    }

    private int greatestDemand(int ticks, int pump) {
        int greatest = 0;
        for (int i = 0; i < ticks; i++) {
            trial.makeTick();
            greatest = Math.max(greatest, trial.pumps.demands[pump]);
        }
        return greatest;
    }

    private int shortTicks(int ticks, int pump) {
        int before = trial.pumps.shortTicks[pump];
        for (int i = 0; i < ticks; i++) {
            trial.makeTick();
        }
        return trial.pumps.shortTicks[pump] - before;
    }

    private int firstShort(int ticks, int pump) {
        for (int i = 0; i < ticks; i++) {
            trial.makeTick();
            if (trial.pumps.isShort(pump)) {
                return i;
            }
        }
        return NONE;
    }

    private int wetTicks(int ticks) {
        int before = trial.wetTicks;
        for (int i = 0; i < ticks; i++) {
            trial.makeTick();
        }
        return trial.wetTicks - before;
    }

    private int greatestHeight(int ticks) {
        int greatest = 0;
        for (int i = 0; i < ticks; i++) {
            trial.makeTick();
            greatest = Math.max(greatest, trial.nozzles.greatestHeightNow());
        }
        return greatest;
    }

    private boolean staysSupplied(int ticks) {
        for (int i = 0; i < ticks; i++) {
            trial.makeTick();
            if (trial.pumps.someShort()) {
                return false;
            }
        }
        return true;
    }

    private boolean staysDry(int ticks) {
        int before = trial.wetTicks;
        trial.nozzles.greatestCutGoal = 0;
        for (int i = 0; i < ticks; i++) {
            trial.makeTick();
            if (trial.wetTicks > before) {
                return false;
            }
        }
        return true;
    }

    private static boolean within(int value, int least, int most) {
        return value >= least && value <= most;
    }

    /** Rounded down. No divisor here is ever below 1; the test makes it plain that none can be 0. */
    private static long quotient(long number, long divisor) {
        return divisor < 1 ? 0 : Math.floorDiv(number, divisor);
    }

    private static int toward(int now, int goal, int step) {
        return now < goal ? Math.min(goal, now + step) : Math.max(goal, now - step);
    }

    private static void copyRow(int[] from, int[] to) {
        System.arraycopy(from, 0, to, 0, Math.min(from.length, to.length));
    }

    private static void clear(int[] row) {
        for (int i = 0; i < row.length; i++) {
            row[i] = 0;
        }
    }

    /** The settings of one or more things of a kind, with their ranges. */
    private static final class Settings {
        private final int[] least;
        private final int[] most;
        private final int[] initial;
        private final int things;
        /** One thing behind the other. */
        private final int[] values;

        Settings(int things, int[] least, int[] most, int[] initial) {
            this.things = Math.max(0, things);
            this.least = least;
            this.most = most;
            this.initial = initial;
            values = new int[this.things * initial.length];
            reset();
        }

        void reset() {
            for (int i = 0; i < things; i++) {
                System.arraycopy(initial, 0, values, i * initial.length, initial.length);
            }
        }

        int value(int thing, int setting) {
            int at = thing * initial.length + setting;
            return at >= 0 && at < values.length ? values[at] : 0;
        }

        /** Returns the previous value, or BAD_VALUE. */
        int change(int thing, int setting, int value) {
            if (!within(thing, 0, things - 1) || !within(setting, 0, initial.length - 1)
                    || !within(value, least[setting], most[setting])) {
                return BAD_VALUE;
            }
            int at = thing * initial.length + setting;
            int before = values[at];
            values[at] = value;
            return before;
        }

        void copy(Settings other) {
            copyRow(other.values, values);
        }
    }

    private static final class Nozzles {
        /** The present tick and as many before it as the greatest LAG. */
        private static final int TICKS_KEPT = 51;

        final Settings settings = new Settings(MOST_NOZZLES, NOZZLE_LEAST, NOZZLE_MOST, NOZZLE_INITIAL);
        final int[] commands = new int[MOST_NOZZLES];
        final int[] openings = new int[MOST_NOZZLES];
        final int[] flows = new int[MOST_NOZZLES];
        final int[] heights = new int[MOST_NOZZLES];
        final int[] drifts = new int[MOST_NOZZLES];
        final int[] greatest = new int[MOST_NOZZLES];
        /** The commands of the latest ticks, a ring of rows. */
        private final int[] past = new int[TICKS_KEPT * MOST_NOZZLES];
        int count = INITIAL_NOZZLES;
        /** The greatest goal, before it was cut, in the ticks of the stage 1; only safeCut looks at it. */
        int greatestCutGoal = 0;

        boolean has(int nozzle) {
            return within(nozzle, 0, count - 1);
        }

        void begin(int newCount) {
            count = newCount;
            settings.reset();
        }

        void goBack() {
            clear(commands);
            clear(openings);
            clear(flows);
            clear(heights);
            clear(drifts);
            clear(greatest);
            clear(past);
        }

        void copy(Nozzles other) {
            count = other.count;
            settings.copy(other.settings);
            copyRow(other.commands, commands);
            copyRow(other.openings, openings);
            copyRow(other.flows, flows);
            copyRow(other.heights, heights);
            copyRow(other.drifts, drifts);
            copyRow(other.greatest, greatest);
            copyRow(other.past, past);
        }

        void obey(int set, int value) {
            for (int i = 0; i < count; i++) {
                if ((set >> i & 1) == 1) {
                    commands[i] = value;
                }
            }
        }

        void keepCommands(int time) {
            System.arraycopy(commands, 0, past, rowOf(time), MOST_NOZZLES);
        }

        void open(int time, int stage, int cut) {
            for (int i = 0; i < count; i++) {
                int goal = commandAt(time - settings.value(i, LAG), i);
                if (stage == 1) {
                    greatestCutGoal = Math.max(greatestCutGoal, goal);
                    goal = Math.min(goal, cut);
                } else if (stage == 2) {
                    goal = 0;
                }
                openings[i] = toward(openings[i], goal, settings.value(i, SPEED));
            }
        }

        int demandOf(int pump) {
            int sum = 0;
            for (int i = 0; i < count; i++) {
                if (settings.value(i, PUMP) == pump) {
                    sum += demandAt(i);
                }
            }
            return sum;
        }

        void flow(int pump, int pumpDemand, int pumpFlow) {
            for (int i = 0; i < count; i++) {
                if (settings.value(i, PUMP) == pump) {
                    int demand = demandAt(i);
                    flows[i] = pumpDemand <= pumpFlow ? demand : (int) quotient((long) demand * pumpFlow, pumpDemand);
                }
            }
        }

        void rise(int wind) {
            for (int i = 0; i < count; i++) {
                long speed = quotient(flows[i], settings.value(i, SIZE));
                heights[i] = (int) (settings.value(i, HEIGHT) * speed * speed / 1000000);
                drifts[i] = (int) ((long) heights[i] * wind * settings.value(i, DRIFT) / 100000);
                greatest[i] = Math.max(greatest[i], heights[i]);
            }
        }

        boolean driftsBeyond(int splash) {
            for (int i = 0; i < count; i++) {
                if (drifts[i] > splash) {
                    return true;
                }
            }
            return false;
        }

        int sumOfHeights() {
            int sum = 0;
            for (int i = 0; i < count; i++) {
                sum += heights[i];
            }
            return sum;
        }

        int greatestHeightNow() {
            int height = 0;
            for (int i = 0; i < count; i++) {
                height = Math.max(height, heights[i]);
            }
            return height;
        }

        private int demandAt(int nozzle) {
            return openings[nozzle] * settings.value(nozzle, SIZE);
        }

        private int commandAt(int time, int nozzle) {
            return time < 0 ? 0 : past[rowOf(time) + nozzle];
        }

        private static int rowOf(int time) {
            return Math.floorMod(time, TICKS_KEPT) * MOST_NOZZLES;
        }
    }

    private static final class Pumps {
        final Settings settings = new Settings(PUMPS, PUMP_LEAST, PUMP_MOST, PUMP_INITIAL);
        final int[] flows = new int[PUMPS];
        final int[] demands = new int[PUMPS];
        final int[] shortTicks = new int[PUMPS];

        void goBack() {
            clear(flows);
            clear(demands);
            clear(shortTicks);
        }

        void copy(Pumps other) {
            settings.copy(other.settings);
            copyRow(other.flows, flows);
            copyRow(other.demands, demands);
            copyRow(other.shortTicks, shortTicks);
        }

        void supply(Nozzles nozzles) {
            for (int i = 0; i < PUMPS; i++) {
                demands[i] = nozzles.demandOf(i);
                int goal = Math.min(demands[i], 1000 * settings.value(i, CAPACITY));
                flows[i] = toward(flows[i], goal, 1000 * settings.value(i, RISE));
                nozzles.flow(i, demands[i], flows[i]);
            }
        }

        void countShort() {
            for (int i = 0; i < PUMPS; i++) {
                if (isShort(i)) {
                    shortTicks[i]++;
                }
            }
        }

        boolean isShort(int pump) {
            return demands[pump] > flows[pump];
        }

        boolean someShort() {
            for (int i = 0; i < PUMPS; i++) {
                if (isShort(i)) {
                    return true;
                }
            }
            return false;
        }
    }

    private static final class Weather {
        int wind = 0;
        int filtered = 0;
        int stage = 0;
        int calm = 0;

        int measured() {
            return filtered / 1024;
        }

        void goBack() {
            filtered = 0;
            stage = 0;
            calm = 0;
        }

        void copy(Weather other) {
            wind = other.wind;
            filtered = other.filtered;
            stage = other.stage;
            calm = other.calm;
        }

        void blow(Settings settings) {
            filtered += (int) quotient(1024 * wind - filtered, settings.value(0, FILTER));
            int first = settings.value(0, FIRST);
            int second = settings.value(0, SECOND);
            if (measured() >= second) {
                enter(2);
            } else if (measured() >= first && stage == 0) {
                enter(1);
            } else if (stage > 0 && measured() < (stage == 2 ? second : first) - 10) {
                calmDown(settings.value(0, HOLD));
            } else {
                calm = 0;
            }
        }

        private void enter(int newStage) {
            stage = newStage;
            calm = 0;
        }

        private void calmDown(int hold) {
            calm++;
            if (calm >= hold) {
                enter(stage - 1);
            }
        }
    }

    /** Cues in the order of their times. */
    private static final class Cues {
        final int[] times = new int[MOST_CUES];
        final int[] sets = new int[MOST_CUES];
        final int[] values = new int[MOST_CUES];
        int count = 0;

        boolean has(int cue) {
            return within(cue, 0, count - 1);
        }

        void copy(Cues other) {
            count = other.count;
            copyRow(other.times, times);
            copyRow(other.sets, sets);
            copyRow(other.values, values);
        }

        /** Returns the number of the new cue, which comes behind the others of its time, or TOO_MANY. */
        int insert(int time, int set, int value) {
            if (count >= MOST_CUES) {
                return TOO_MANY;
            }
            int at = next(time + 1);
            if (at == NONE) {
                at = count;
            }
            shift(at, at + 1, count - at);
            times[at] = time;
            sets[at] = set;
            values[at] = value;
            count++;
            return at;
        }

        void takeOut(int cue) {
            shift(cue + 1, cue, count - cue - 1);
            count--;
        }

        /** Returns the number of the cue then. */
        int postpone(int cue, int by) {
            int time = times[cue] + by;
            int set = sets[cue];
            int value = values[cue];
            takeOut(cue);
            return insert(time, set, value);
        }

        /** The first cue at this time or later, or NONE. */
        int next(int time) {
            for (int i = 0; i < count; i++) {
                if (times[i] >= time) {
                    return i;
                }
            }
            return NONE;
        }

        void carryOut(int time, Nozzles nozzles) {
            for (int i = 0; i < count && times[i] <= time; i++) {
                if (times[i] == time) {
                    nozzles.obey(sets[i], values[i]);
                }
            }
        }

        private void shift(int from, int to, int length) {
            System.arraycopy(times, from, times, to, length);
            System.arraycopy(sets, from, sets, to, length);
            System.arraycopy(values, from, values, to, length);
        }
    }

    /** All that a slot keeps and a trial needs. */
    private static final class Show {
        final Settings settings = new Settings(1, SHOW_LEAST, SHOW_MOST, SHOW_INITIAL);
        final Nozzles nozzles = new Nozzles();
        final Pumps pumps = new Pumps();
        final Weather weather = new Weather();
        final Cues cues = new Cues();
        int time = 0;
        int wetTicks = 0;

        void begin(int count) {
            settings.reset();
            nozzles.begin(count);
            pumps.settings.reset();
            weather.wind = 0;
            cues.count = 0;
            goBack();
        }

        void goBack() {
            nozzles.goBack();
            pumps.goBack();
            weather.goBack();
            time = 0;
            wetTicks = 0;
        }

        void copy(Show other) {
            settings.copy(other.settings);
            nozzles.copy(other.nozzles);
            pumps.copy(other.pumps);
            weather.copy(other.weather);
            cues.copy(other.cues);
            time = other.time;
            wetTicks = other.wetTicks;
        }

        void makeTick() {
            cues.carryOut(time, nozzles);
            nozzles.keepCommands(time);
            weather.blow(settings);
            nozzles.open(time, weather.stage, settings.value(0, CUT));
            pumps.supply(nozzles);
            nozzles.rise(weather.measured());
            pumps.countShort();
            if (nozzles.driftsBeyond(settings.value(0, SPLASH))) {
                wetTicks++;
            }
            time++;
        }
    }

    private static final class Slot {
        final Show kept = new Show();
        boolean filled = false;
    }

    /**
     * The text, and the cues that were found in it when it was last gone through. They are found in the order of
     * their times already: adding them so gives the same as adding them in the order of the text.
     */
    private static final class Pad {
        private static final int IN_TIME = 0;
        private static final int IN_SET = 1;
        private static final int IN_VALUE = 2;
        private static final int NO_DIGIT = -1;

        final Cues found = new Cues();
        private final char[] text = new char[PAD_SIZE];
        int length = 0;
        private int phase = IN_TIME;
        private int time = 0;
        private int set = 0;
        private int number = NO_DIGIT;

        /** Returns the length then, or TOO_MANY. */
        int append(char character) {
            if (length >= PAD_SIZE) {
                return TOO_MANY;
            }
            text[length] = character;
            length++;
            return length;
        }

        /** Returns the fault, or NONE. */
        int findFault() {
            found.count = 0;
            phase = IN_TIME;
            number = NO_DIGIT;
            for (int i = 0; i < length; i++) {
                if (!accepts(text[i])) {
                    return i;
                }
            }
            return endsCue() ? NONE : length;
        }

        private boolean accepts(char character) {
            switch (phase) {
                case IN_TIME: return character == ':' ? endsTime() : isDigitUpTo(LAST_TEXT_TIME, character);
                case IN_SET: return character == '=' ? endsSet() : isLetter(character);
                default: return character == ',' ? endsCue() : isDigitUpTo(MOST_VALUE, character);
            }
        }

        private boolean endsTime() {
            time = number;
            set = 0;
            phase = IN_SET;
            return number != NO_DIGIT;
        }

        private boolean endsSet() {
            number = NO_DIGIT;
            phase = IN_VALUE;
            return set != 0;
        }

        private boolean endsCue() {
            if (phase != IN_VALUE || number == NO_DIGIT) {
                return false;
            }
            found.insert(time, set, number);
            number = NO_DIGIT;
            phase = IN_TIME;
            return true;
        }

        private boolean isDigitUpTo(int most, char character) {
            if (character < '0' || character > '9' || number == 0) {
                return false;
            }
            int digit = character - '0';
            number = number == NO_DIGIT ? digit : 10 * number + digit;
            return number <= most;
        }

        private boolean isLetter(char character) {
            if (character < 'a' || character > 'l') {
                return false;
            }
            int nozzle = 1 << character - 'a';
            boolean ascends = nozzle > set;
            set |= nozzle;
            return ascends;
        }
    }
}

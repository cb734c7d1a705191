import java.util.ArrayList;
import java.util.HashMap;
import java.util.List;
import java.util.Map;

/**
 * A second program of the document, written apart from the first: numbers without a bound on their size, every
 * command ever given kept, copies made anew, texts tried with all that could follow. Slow and plain.
 */
final class Model {
    private static final int NO_SUCH = -1, BAD_VALUE = -2, BAD_TEXT = -3, TOO_MANY = -4, NOT_POSSIBLE = -5, NONE = -6;
    private static final long[][] NOZZLE = {{1, 100, 10}, {1, 5000, 1000}, {0, 50, 3}, {1, 1000, 200}, {0, 2, 0}, {0, 100, 10}};
    private static final long[][] PUMP = {{0, 2000, 100}, {1, 500, 20}};
    private static final long[][] SHOW = {{1, 64, 4}, {0, 300, 80}, {0, 300, 150}, {0, 1000, 500}, {0, 600, 30}, {0, 5000, 200}};

    private static final class Jet {
        long[] settings = initial(NOZZLE);
        long command, opening, flow, height, drift, greatest;

        Jet twin() {
            Jet twin = new Jet();
            twin.settings = settings.clone();
            twin.command = command;
            twin.opening = opening;
            twin.flow = flow;
            twin.height = height;
            twin.drift = drift;
            twin.greatest = greatest;
            return twin;
        }
    }

    private static final class Motor {
        long[] settings = initial(PUMP);
        long flow, demand, shorts;

        Motor twin() {
            Motor twin = new Motor();
            twin.settings = settings.clone();
            twin.flow = flow;
            twin.demand = demand;
            twin.shorts = shorts;
            return twin;
        }
    }

    private record Cue(long time, int set, int value) {
    }

    private static final class World {
        long[] settings = initial(SHOW);
        List<Jet> jets = new ArrayList<>();
        List<Motor> motors = new ArrayList<>();
        List<Cue> cues = new ArrayList<>();
        Map<Long, long[]> past = new HashMap<>();
        long wind, filtered, stage, calm, time, wets;
        boolean wetNow;

        World(int nozzles) {
            for (int i = 0; i < nozzles; i++) {
                jets.add(new Jet());
            }
            for (int i = 0; i < 3; i++) {
                motors.add(new Motor());
            }
        }

        World twin() {
            World twin = new World(0);
            twin.motors.clear();
            twin.settings = settings.clone();
            for (Jet jet : jets) {
                twin.jets.add(jet.twin());
            }
            for (Motor motor : motors) {
                twin.motors.add(motor.twin());
            }
            twin.cues.addAll(cues);
            for (Map.Entry<Long, long[]> entry : past.entrySet()) {
                if (entry.getKey() > time - 60) {
                    twin.past.put(entry.getKey(), entry.getValue());
                }
            }
            twin.wind = wind;
            twin.filtered = filtered;
            twin.stage = stage;
            twin.calm = calm;
            twin.time = time;
            twin.wets = wets;
            return twin;
        }

        World rewound() {
            World fresh = new World(0);
            fresh.settings = settings;
            fresh.wind = wind;
            fresh.cues = cues;
            for (Jet jet : jets) {
                Jet other = new Jet();
                other.settings = jet.settings;
                fresh.jets.add(other);
            }
            for (int i = 0; i < 3; i++) {
                fresh.motors.get(i).settings = motors.get(i).settings;
            }
            return fresh;
        }

        int add(Cue cue) {
            int at = cues.size();
            while (at > 0 && cues.get(at - 1).time() > cue.time()) {
                at--;
            }
            cues.add(at, cue);
            return at;
        }

        int shift(int number, int by) {
            Cue cue = cues.remove(number);
            return add(new Cue(cue.time() + by, cue.set(), cue.value()));
        }

        void give(int set, int value) {
            for (int i = 0; i < jets.size(); i++) {
                if ((set & (1 << i)) != 0) {
                    jets.get(i).command = value;
                }
            }
        }

        void tick() {
            for (Cue cue : cues) {
                if (cue.time() == time) {
                    give(cue.set(), cue.value());
                }
            }
            past.put(time, jets.stream().mapToLong(jet -> jet.command).toArray());
            filtered = filtered + down(1024 * wind - filtered, settings[0]);
            long m = filtered / 1024;
            weather(m);
            for (int i = 0; i < jets.size(); i++) {
                Jet jet = jets.get(i);
                long[] row = past.get(time - jet.settings[2]);
                long goal = row == null ? 0 : row[i];
                goal = stage == 2 ? 0 : stage == 1 ? Math.min(goal, settings[3]) : goal;
                jet.opening = near(jet.opening, goal, jet.settings[3]);
            }
            for (Motor motor : motors) {
                motor.demand = 0;
            }
            for (Jet jet : jets) {
                motors.get((int) jet.settings[4]).demand += jet.opening * jet.settings[0];
            }
            for (Motor motor : motors) {
                motor.flow = near(motor.flow, Math.min(motor.demand, 1000 * motor.settings[0]), 1000 * motor.settings[1]);
                if (motor.demand > motor.flow) {
                    motor.shorts++;
                }
            }
            wetNow = false;
            for (Jet jet : jets) {
                Motor motor = motors.get((int) jet.settings[4]);
                long own = jet.opening * jet.settings[0];
                jet.flow = motor.demand <= motor.flow ? own : own * motor.flow / motor.demand;
                long v = jet.flow / jet.settings[0];
                jet.height = jet.settings[1] * v * v / 1000000;
                jet.drift = jet.height * m * jet.settings[5] / 100000;
                jet.greatest = Math.max(jet.greatest, jet.height);
                wetNow |= jet.drift > settings[5];
            }
            wets += wetNow ? 1 : 0;
            time++;
        }

        void weather(long m) {
            if (m >= settings[2]) {
                stage = 2;
                calm = 0;
                return;
            }
            if (m >= settings[1] && stage == 0) {
                stage = 1;
                calm = 0;
                return;
            }
            boolean quiet = stage == 2 && m < settings[2] - 10 || stage == 1 && m < settings[1] - 10;
            calm = quiet ? calm + 1 : 0;
            if (quiet && calm >= settings[4]) {
                stage--;
                calm = 0;
            }
        }
    }

    private World world = new World(4);
    private final World[] slots = new World[2];
    private String text = "";

    private static long[] initial(long[][] rows) {
        long[] values = new long[rows.length];
        for (int i = 0; i < rows.length; i++) {
            values[i] = rows[i][2];
        }
        return values;
    }

    private static long down(long number, long by) {
        long whole = number / by;
        return whole * by > number ? whole - 1 : whole;
    }

    private static long near(long now, long goal, long step) {
        if (Math.abs(goal - now) <= step) {
            return goal;
        }
        return goal > now ? now + step : now - step;
    }

    private static boolean out(long value, long least, long most) {
        return value < least || value > most;
    }

    private static int change(long[] values, long[][] ranges, int setting, int value) {
        if (out(setting, 0, ranges.length - 1) || out(value, ranges[setting][0], ranges[setting][1])) {
            return BAD_VALUE;
        }
        int before = (int) values[setting];
        values[setting] = value;
        return before;
    }

    int setUp(int nozzles) {
        if (out(nozzles, 1, 12)) {
            return BAD_VALUE;
        }
        int before = world.jets.size();
        world = new World(nozzles);
        return before;
    }

    int nozzle(int nozzle, int setting, int value) {
        return out(nozzle, 0, world.jets.size() - 1) ? NO_SUCH
            : change(world.jets.get(nozzle).settings, NOZZLE, setting, value);
    }

    int pump(int pump, int setting, int value) {
        return out(pump, 0, 2) ? NO_SUCH : change(world.motors.get(pump).settings, PUMP, setting, value);
    }

    int set(int setting, int value) {
        return change(world.settings, SHOW, setting, value);
    }

    int wind(int wind) {
        if (out(wind, 0, 300)) {
            return BAD_VALUE;
        }
        int before = (int) world.wind;
        world.wind = wind;
        return before;
    }

    int cue(int time, int nozzles, int value) {
        if (out(time, 0, 100000) || out(nozzles, 1, 4095) || out(value, 0, 1000)) {
            return BAD_VALUE;
        }
        return world.cues.size() == 60 ? TOO_MANY : world.add(new Cue(time, nozzles, value));
    }

    private boolean noCue(int cue) {
        return out(cue, 0, world.cues.size() - 1);
    }

    int remove(int cue) {
        if (noCue(cue)) {
            return NO_SUCH;
        }
        world.cues.remove(cue);
        return world.cues.size();
    }

    int move(int cue, int by) {
        if (noCue(cue)) {
            return NO_SUCH;
        }
        if (out(by, -100000, 100000) || out(world.cues.get(cue).time() + by, 0, 100000)) {
            return BAD_VALUE;
        }
        return world.shift(cue, by);
    }

    int part(int cue, int what) {
        if (noCue(cue)) {
            return NO_SUCH;
        }
        Cue it = world.cues.get(cue);
        return what == 0 ? (int) it.time() : what == 1 ? it.set() : what == 2 ? it.value() : BAD_VALUE;
    }

    int command(int nozzles, int value) {
        if (out(nozzles, 1, 4095) || out(value, 0, 1000)) {
            return BAD_VALUE;
        }
        world.give(nozzles, value);
        return (int) world.time;
    }

    int tick(int ticks) {
        if (out(ticks, 1, 2000)) {
            return BAD_VALUE;
        }
        if (world.time + ticks > 200000) {
            return NOT_POSSIBLE;
        }
        for (int i = 0; i < ticks; i++) {
            world.tick();
        }
        return (int) world.time;
    }

    int rewind() {
        int before = (int) world.time;
        world = world.rewound();
        return before;
    }

    int spray(int nozzle, int what) {
        if (out(nozzle, 0, world.jets.size() - 1)) {
            return NO_SUCH;
        }
        Jet jet = world.jets.get(nozzle);
        long[] all = {jet.settings[0], jet.settings[1], jet.settings[2], jet.settings[3], jet.settings[4],
            jet.settings[5], jet.command, jet.opening, jet.flow, jet.height, jet.drift, jet.greatest};
        return out(what, 0, 11) ? BAD_VALUE : Math.toIntExact(all[what]);
    }

    int pressure(int pump, int what) {
        if (out(pump, 0, 2)) {
            return NO_SUCH;
        }
        Motor motor = world.motors.get(pump);
        long[] all = {motor.settings[0], motor.settings[1], motor.flow, motor.demand, motor.shorts};
        return out(what, 0, 4) ? BAD_VALUE : Math.toIntExact(all[what]);
    }

    float load(int pump) {
        if (out(pump, 0, 2)) {
            return -1;
        }
        Motor motor = world.motors.get(pump);
        return motor.settings[0] == 0 ? 0 : (float) motor.flow / (1000f * motor.settings[0]);
    }

    double meanHeight() {
        double sum = 0;
        for (Jet jet : world.jets) {
            sum += jet.height;
        }
        return sum / world.jets.size();
    }

    int state(int what) {
        if (out(what, 0, 15)) {
            return BAD_VALUE;
        }
        if (what >= 10) {
            return (int) world.settings[what - 10];
        }
        int next = NONE;
        for (int i = world.cues.size() - 1; i >= 0; i--) {
            next = world.cues.get(i).time() >= world.time ? i : next;
        }
        long[] all = {world.time, world.jets.size(), world.cues.size(), world.wind, world.filtered / 1024, world.stage,
            world.calm, world.wets, next, text.length()};
        return Math.toIntExact(all[what]);
    }

    int ahead(int ticks, int pump, int what) {
        if (out(ticks, 1, 1000) || out(what, 0, 4)) {
            return BAD_VALUE;
        }
        if (what < 3 && out(pump, 0, 2)) {
            return NO_SUCH;
        }
        World copy = world.twin();
        Motor motor = copy.motors.get(what < 3 ? pump : 0);
        long[] answers = {0, 0, NONE, 0, 0};
        for (int i = 0; i < ticks; i++) {
            copy.tick();
            boolean lacks = motor.demand > motor.flow;
            answers[0] = Math.max(answers[0], motor.demand);
            answers[1] += lacks ? 1 : 0;
            answers[2] = lacks && answers[2] == NONE ? i : answers[2];
            answers[3] += copy.wetNow ? 1 : 0;
            for (Jet jet : copy.jets) {
                answers[4] = Math.max(answers[4], jet.height);
            }
        }
        return (int) answers[what];
    }

    int delay(int cue, int most, int ticks) {
        if (noCue(cue)) {
            return NO_SUCH;
        }
        if (out(most, 0, 100) || out(ticks, 1, 300)) {
            return BAD_VALUE;
        }
        for (int later = 0; later <= most; later++) {
            if (world.cues.get(cue).time() + later <= 100000 && supplied(cue, later, ticks)) {
                return later;
            }
        }
        return NONE;
    }

    private boolean supplied(int cue, int later, int ticks) {
        World copy = world.twin();
        copy.shift(cue, later);
        long before = shorts(copy);
        for (int i = 0; i < ticks && shorts(copy) == before; i++) {
            copy.tick();
        }
        return shorts(copy) == before;
    }

    private static long shorts(World world) {
        return world.motors.stream().mapToLong(motor -> motor.shorts).sum();
    }

    int safeCut(int ticks) {
        if (out(ticks, 1, 100)) {
            return BAD_VALUE;
        }
        for (int cut = 1000; cut >= 0; cut--) {
            World copy = world.twin();
            copy.settings[3] = cut;
            for (int i = 0; i < ticks && copy.wets == world.wets; i++) {
                copy.tick();
            }
            if (copy.wets == world.wets) {
                return cut;
            }
        }
        return NONE;
    }

    int say(int character) {
        if (out(character, 33, 126)) {
            return BAD_VALUE;
        }
        if (text.length() == 80) {
            return TOO_MANY;
        }
        text += (char) character;
        return text.length();
    }

    int wipe() {
        int before = text.length();
        text = "";
        return before;
    }

    private static boolean correct(String text) {
        for (String cue : text.split(",", -1)) {
            if (!cue.matches("(0|[1-9][0-9]{0,3}):a?b?c?d?e?f?g?h?i?j?k?l?=(0|[1-9][0-9]{0,2}|1000)") || cue.contains(":=")) {
                return false;
            }
        }
        return true;
    }

    private static boolean begins(String text) {
        for (String rest : new String[] {"", "0", "=0", "l=0", ":l=0", "0:l=0"}) {
            if (correct(text + rest)) {
                return true;
            }
        }
        return false;
    }

    int fault() {
        if (correct(text)) {
            return NONE;
        }
        for (int i = 0; i < text.length(); i++) {
            if (!begins(text.substring(0, i + 1))) {
                return i;
            }
        }
        return text.length();
    }

    int read(int later) {
        if (!correct(text)) {
            return BAD_TEXT;
        }
        if (out(later, 0, 90000)) {
            return BAD_VALUE;
        }
        String[] cues = text.split(",");
        if (world.cues.size() + cues.length > 60) {
            return TOO_MANY;
        }
        for (String cue : cues) {
            String[] parts = cue.split("[:=]");
            int set = 0;
            for (char letter : parts[1].toCharArray()) {
                set += 1 << (letter - 'a');
            }
            world.add(new Cue(Integer.parseInt(parts[0]) + later, set, Integer.parseInt(parts[2])));
        }
        text = "";
        return cues.length;
    }

    int save(int slot) {
        if (out(slot, 0, 1)) {
            return BAD_VALUE;
        }
        slots[slot] = world.twin();
        return (int) world.time;
    }

    int restore(int slot) {
        if (out(slot, 0, 1)) {
            return BAD_VALUE;
        }
        if (slots[slot] == null) {
            return NOT_POSSIBLE;
        }
        world = slots[slot].twin();
        return (int) world.time;
    }
}

import java.util.List;

/** Promises 14 to 18: spray, pressure, load, meanHeight, state. */
public final class AskTest {
    private static final int[] ODD = {Integer.MIN_VALUE, -1, Integer.MAX_VALUE};
    private static final Check CHECK = new Check();

    public static void main(String[] args) {
        spray();
        pressure();
        load();
        meanHeight();
        state();
        asksChangeNothing();
        CHECK.end();
    }

    private static void spray() {
        FountainShow x = new FountainShow();
        int[] values = {20, 3000, 0, 700, 1, 90};
        for (int s = 0; s < 6; s++) {
            x.nozzle(2, s, values[s]);
        }
        x.set(FountainShow.FILTER, 1);
        x.wind(50);
        x.command(4, 1000);
        x.tick(1);
        for (int s = 0; s < 6; s++) {
            CHECK.due("setting " + s, x.spray(2, s), values[s]);
        }
        CHECK.due("command", x.spray(2, 6), 1000);
        CHECK.due("opening", x.spray(2, 7), 700);
        CHECK.due("flow", x.spray(2, 8), 14000);
        CHECK.due("height", x.spray(2, 9), 1470);
        // 1470 * 50 * 90 / 100000
        CHECK.due("drift", x.spray(2, 10), 66);
        CHECK.due("greatest height", x.spray(2, 11), 1470);
        CHECK.due("a command behind it", x.command(4, 200), 1);
        CHECK.due("its command", x.spray(2, 6), 200);
        CHECK.due("the opening stays", x.spray(2, 7), 700);
        x.nozzle(2, FountainShow.SIZE, 40);
        CHECK.due("the flow stays", x.spray(2, 8), 14000);
        x.tick(1);
        CHECK.due("less height", x.spray(2, 9), 120);
        CHECK.due("greatest height stays", x.spray(2, 11), 1470);
        CHECK.due("what 12", x.spray(2, 12), -2);
        CHECK.due("nozzle 4", x.spray(4, 0), -1);
        CHECK.due("nozzle 4 first", x.spray(4, 12), -1);
        for (int odd : ODD) {
            CHECK.due("what " + odd, x.spray(1, odd), -2);
            CHECK.due("nozzle " + odd, x.spray(odd, 0), -1);
        }
    }

    private static void pressure() {
        FountainShow x = new FountainShow();
        x.pump(1, FountainShow.CAPACITY, 33);
        x.pump(1, FountainShow.RISE, 1);
        x.nozzle(3, FountainShow.PUMP, 1);
        x.nozzle(3, FountainShow.LAG, 0);
        x.command(8, 500);
        CHECK.due("demand before the first tick", x.pressure(1, 3), 0);
        x.tick(2);
        CHECK.due("capacity", x.pressure(1, 0), 33);
        CHECK.due("rise", x.pressure(1, 1), 1);
        CHECK.due("flow", x.pressure(1, 2), 2000);
        CHECK.due("demand", x.pressure(1, 3), 4000);
        CHECK.due("short", x.pressure(1, 4), 2);
        CHECK.due("another pump is not short", x.pressure(0, 4), 0);
        CHECK.due("what 5", x.pressure(1, 5), -2);
        CHECK.due("pump 3", x.pressure(3, 0), -1);
        CHECK.due("pump 3 first", x.pressure(3, 5), -1);
        for (int odd : ODD) {
            CHECK.due("what " + odd, x.pressure(1, odd), -2);
            CHECK.due("pump " + odd, x.pressure(odd, 0), -1);
        }
        x.tick(3);
        CHECK.due("flow is the demand", x.pressure(1, 2), 5000);
        CHECK.due("not short when they are equal", x.pressure(1, 4), 4);
    }

    private static void load() {
        FountainShow x = new FountainShow();
        CHECK.due("no flow", x.load(0), 0.0);
        CHECK.due("pump 3", x.load(3), -1.0);
        for (int odd : ODD) {
            CHECK.due("pump " + odd, x.load(odd), -1.0);
        }
        x.nozzle(0, FountainShow.LAG, 0);
        x.nozzle(0, FountainShow.PUMP, 2);
        x.command(1, 1000);
        x.pump(2, FountainShow.CAPACITY, 3);
        x.tick(1);
        CHECK.due("a third of it", x.load(2), (double) (2000f / 3000f));
        CHECK.due("not of another", x.load(0), 0.0);
        x.pump(2, FountainShow.CAPACITY, 1);
        CHECK.due("above 1", x.load(2), 2.0);
        x.pump(2, FountainShow.CAPACITY, 0);
        CHECK.due("no capacity", x.load(2), 0.0);
    }

    private static void meanHeight() {
        FountainShow x = new FountainShow();
        x.setUp(3);
        CHECK.due("none", x.meanHeight(), 0.0);
        for (int i = 0; i < 3; i++) {
            x.nozzle(i, FountainShow.LAG, 0);
            x.nozzle(i, FountainShow.SPEED, 1000);
        }
        x.command(1, 1000);
        x.tick(1);
        CHECK.due("a third", x.meanHeight(), 1000.0 / 3);
        x.command(2, 700);
        x.tick(1);
        CHECK.due("two", x.meanHeight(), 1490.0 / 3);
        x.setUp(12);
        for (int i = 0; i < 12; i++) {
            x.nozzle(i, FountainShow.HEIGHT, 5000);
            x.nozzle(i, FountainShow.SIZE, 1);
        }
        x.command(4095, 1000);
        x.tick(10);
        CHECK.due("greatest", x.meanHeight(), 5000.0);
    }

    private static void state() {
        FountainShow x = new FountainShow();
        x.setUp(7);
        x.cue(3, 1, 1);
        x.cue(5, 1, 1);
        x.cue(5, 1, 2);
        CHECK.due("next at 0", x.state(8), 0);
        x.tick(3);
        CHECK.due("not less than the present time", x.state(8), 0);
        x.tick(1);
        CHECK.due("next at 4", x.state(8), 1);
        x.tick(1);
        CHECK.due("next at 5", x.state(8), 1);
        x.tick(1);
        CHECK.due("none is next", x.state(8), -6);
        CHECK.due("time", x.state(0), 6);
        CHECK.due("nozzles", x.state(1), 7);
        CHECK.due("cues", x.state(2), 3);
        x.wind(99);
        CHECK.due("wind", x.state(3), 99);
        x.say('a');
        x.say('a');
        CHECK.due("pad", x.state(9), 2);
        for (int s = 0; s < 6; s++) {
            x.set(s, 10 + s);
        }
        for (int s = 0; s < 6; s++) {
            CHECK.due("setting " + s, x.state(10 + s), 10 + s);
        }
        CHECK.due("what 16", x.state(16), -2);
        for (int odd : ODD) {
            CHECK.due("what " + odd, x.state(odd), -2);
        }
    }

    private static void asksChangeNothing() {
        FountainShow x = Shows.busy();
        List<String> before = Shows.picture(x);
        for (int what = 0; what < 5; what++) {
            x.ahead(100, 0, what);
        }
        x.delay(0, 10, 300);
        x.delay(7, 10, 300);
        x.safeCut(100);
        x.load(0);
        x.meanHeight();
        x.fault();
        x.restore(1);
        CHECK.isTrue("asking changes nothing", Shows.picture(x).equals(before));
    }
}

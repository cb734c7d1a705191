/** Each boundary that "Nozzles", "Pumps", "The show" and the promises 1 to 6 name: at it, just inside, just outside. */
public final class SettingsEdgesTest {
    private static final int NONE = FountainShow.NONE;
    private static final int NO_SUCH = FountainShow.NO_SUCH;
    private static final int BAD_VALUE = FountainShow.BAD_VALUE;
    private static final String[] OF_NOZZLE = {"SIZE", "HEIGHT", "LAG", "SPEED", "PUMP", "DRIFT"};
    /** Least, most, initial. */
    private static final int[][] NOZZLE = {
        {1, 100, 10}, {1, 5000, 1000}, {0, 50, 3}, {1, 1000, 200}, {0, 2, 0}, {0, 100, 10}};
    private static final String[] OF_PUMP = {"CAPACITY", "RISE"};
    private static final int[][] PUMP = {{0, 2000, 100}, {1, 500, 20}};
    private static final String[] OF_SHOW = {"FILTER", "FIRST", "SECOND", "CUT", "HOLD", "SPLASH"};
    private static final int[][] SHOW = {
        {1, 64, 4}, {0, 300, 80}, {0, 300, 150}, {0, 1000, 500}, {0, 600, 30}, {0, 5000, 200}};
    private static final Check CHECK = new Check();
    private static final Edges EDGES = new Edges(CHECK);

    public static void main(String[] args) {
        numbersOfNozzles();
        initiallyFourNozzles();
        newObjectHasNoCues();
        newObjectIsAtTheTimeZero();
        nozzlesAreNumberedFromZero();
        settingsOfNozzles();
        initialSettingsOfNozzles();
        motionIsInitiallyZero();
        threePumps();
        settingsOfPumps();
        initialSettingsOfPumps();
        pumpsAreInitiallyIdle();
        settingsOfTheShow();
        initialSettingsOfTheShow();
        windIsInitiallyZero();
        windFromZeroToThreeHundred();
        setUpAnswersTheNumberBefore();
        setUpMakesAllInitial();
        setUpStopsTheWind();
        setUpLeavesNoCues();
        setUpGoesToTheTimeZero();
        setUpForgetsLaggingCommands();
        padStays();
        slotsStay();
        CHECK.end();
    }

    /** "There are 1 to 12 nozzles", "BAD_VALUE if nozzles is out of range". */
    private static void numbersOfNozzles() {
        EDGES.refusedOutside("nozzles", 1, 12, BAD_VALUE, Shows::busy, (x, v) -> x.setUp(v));
        for (int nozzles : Edges.inside(1, 12)) {
            FountainShow x = new FountainShow();
            CHECK.due("set up " + nozzles, x.setUp(nozzles), 4);
            CHECK.due("there are " + nozzles, x.state(1), nozzles);
            CHECK.due("the last of " + nozzles, x.spray(nozzles - 1, 0), 10);
            CHECK.due("none behind " + nozzles, x.spray(nozzles, 0), NO_SUCH);
        }
    }

    /** "initially 4", "Creates a show with 4 nozzles". */
    private static void initiallyFourNozzles() {
        FountainShow x = new FountainShow();
        CHECK.due("there are 4", x.state(1), 4);
        CHECK.due("the fourth", x.nozzle(3, FountainShow.SIZE, 11), 10);
        CHECK.due("no fifth", x.nozzle(4, FountainShow.SIZE, 11), NO_SUCH);
    }

    /** "without cues". */
    private static void newObjectHasNoCues() {
        FountainShow x = new FountainShow();
        CHECK.due("no cues", x.state(2), 0);
        CHECK.due("no first one", x.part(0, 0), NO_SUCH);
        CHECK.due("none is next", x.state(8), NONE);
    }

    /** "at the time 0". */
    private static void newObjectIsAtTheTimeZero() {
        FountainShow x = new FountainShow();
        CHECK.due("time", x.state(0), 0);
        x.cue(0, 1, 5);
        CHECK.due("a cue of the time 0 comes", x.state(8), 0);
        CHECK.due("first tick", x.tick(1), 1);
        CHECK.due("its command", x.spray(0, 6), 5);
    }

    /** "Everything is numbered from 0", "NO_SUCH if there is no such nozzle". */
    private static void nozzlesAreNumberedFromZero() {
        for (int nozzles : Edges.inside(1, 12)) {
            FountainShow x = new FountainShow();
            x.setUp(nozzles);
            for (int out : Edges.outside(0, nozzles - 1)) {
                CHECK.due("of " + nozzles + ", " + out, x.nozzle(out, FountainShow.LAG, 7), NO_SUCH);
            }
            CHECK.due("of " + nozzles + ", the first", x.nozzle(0, FountainShow.LAG, 7), 3);
            CHECK.due("of " + nozzles + ", the last", x.nozzle(nozzles - 1, FountainShow.LAG, 7), nozzles == 1 ? 7 : 3);
        }
    }

    /** "SIZE (1 to 100, 10), HEIGHT (1 to 5000, 1000), .."; "BAD_VALUE if .. value is out of its range". */
    private static void settingsOfNozzles() {
        for (int s = 0; s < 6; s++) {
            int setting = s;
            EDGES.setting(OF_NOZZLE[s] + " of the first", NOZZLE[s], Shows::busy,
                (x, v) -> x.nozzle(0, setting, v), x -> x.spray(0, setting));
            EDGES.setting(OF_NOZZLE[s] + " of the last", NOZZLE[s], Shows::busy,
                (x, v) -> x.nozzle(4, setting, v), x -> x.spray(4, setting));
        }
        EDGES.refusedOutside("setting", 0, 5, BAD_VALUE, Shows::busy, (x, v) -> x.nozzle(0, v, 1));
    }

    private static void initialSettingsOfNozzles() {
        FountainShow x = new FountainShow();
        for (int n = 0; n < 4; n++) {
            for (int s = 0; s < 6; s++) {
                CHECK.due(OF_NOZZLE[s] + " of " + n, x.spray(n, s), NOZZLE[s][2]);
            }
        }
    }

    /** "It has a command, an opening, a flow, a height, a drift and a greatest height, all initially 0." */
    private static void motionIsInitiallyZero() {
        FountainShow x = new FountainShow();
        for (int n = 0; n < 4; n++) {
            for (int what = 6; what < 12; what++) {
                CHECK.due("spray " + n + " " + what, x.spray(n, what), 0);
            }
        }
    }

    /** "There are three pumps", "NO_SUCH if there is no such pump". */
    private static void threePumps() {
        EDGES.refusedOutside("pump", 0, 2, NO_SUCH, Shows::busy, (x, v) -> x.pump(v, FountainShow.CAPACITY, 7));
        for (int p = 0; p < 3; p++) {
            FountainShow x = new FountainShow();
            CHECK.due("pump " + p, x.pump(p, FountainShow.CAPACITY, 7), 100);
            CHECK.due("pump " + p + " then", x.pressure(p, 0), 7);
        }
    }

    /** "CAPACITY (0 to 2000, 100) and a RISE (1 to 500, 20)". */
    private static void settingsOfPumps() {
        for (int s = 0; s < 2; s++) {
            for (int p = 0; p < 3; p++) {
                int setting = s;
                int pump = p;
                EDGES.setting(OF_PUMP[s] + " of " + p, PUMP[s], Shows::busy,
                    (x, v) -> x.pump(pump, setting, v), x -> x.pressure(pump, setting));
            }
        }
        EDGES.refusedOutside("setting of a pump", 0, 1, BAD_VALUE, Shows::busy, (x, v) -> x.pump(0, v, 1));
    }

    private static void initialSettingsOfPumps() {
        FountainShow x = new FountainShow();
        for (int p = 0; p < 3; p++) {
            for (int s = 0; s < 2; s++) {
                CHECK.due(OF_PUMP[s] + " of " + p, x.pressure(p, s), PUMP[s][2]);
            }
        }
    }

    /** "and a flow, initially 0"; counts too. */
    private static void pumpsAreInitiallyIdle() {
        FountainShow x = new FountainShow();
        for (int p = 0; p < 3; p++) {
            for (int what = 2; what < 5; what++) {
                CHECK.due("pressure " + p + " " + what, x.pressure(p, what), 0);
            }
        }
    }

    /** "FILTER (1 to 64, 4), FIRST (0 to 300, 80), .."; "BAD_VALUE if there is no such setting, or value is .." */
    private static void settingsOfTheShow() {
        for (int s = 0; s < 6; s++) {
            int setting = s;
            EDGES.setting(OF_SHOW[s], SHOW[s], Shows::busy, (x, v) -> x.set(setting, v), x -> x.state(10 + setting));
        }
        EDGES.refusedOutside("setting of the show", 0, 5, BAD_VALUE, Shows::busy, (x, v) -> x.set(v, 1));
    }

    private static void initialSettingsOfTheShow() {
        FountainShow x = new FountainShow();
        for (int s = 0; s < 6; s++) {
            CHECK.due(OF_SHOW[s], x.state(10 + s), SHOW[s][2]);
        }
    }

    /** "There is a wind, a filtered wind F, a stage and a calm count, all initially 0." */
    private static void windIsInitiallyZero() {
        FountainShow x = new FountainShow();
        CHECK.due("wind", x.state(3), 0);
        CHECK.due("measured", x.state(4), 0);
        CHECK.due("stage", x.state(5), 0);
        CHECK.due("calm count", x.state(6), 0);
        CHECK.due("wet ticks", x.state(7), 0);
        x.set(FountainShow.FILTER, 2);
        x.wind(2);
        x.tick(1);
        CHECK.due("F was not below 0", x.state(4), 1);
        FountainShow y = new FountainShow();
        y.set(FountainShow.FILTER, 5);
        y.wind(111);
        y.tick(18);
        // From F = 1 it would be 109.
        CHECK.due("F was not above 0", y.state(4), 108);
    }

    /** "a wind (0 to 300)", "Returns the previous wind; BAD_VALUE if wind is out of range". */
    private static void windFromZeroToThreeHundred() {
        EDGES.setting("wind", new int[] {0, 300}, Shows::busy, (x, v) -> x.wind(v), x -> x.state(3));
    }

    /** "Returns the number of nozzles that there were". */
    private static void setUpAnswersTheNumberBefore() {
        FountainShow x = new FountainShow();
        int before = 4;
        for (int nozzles : new int[] {1, 12, 2, 11, 11}) {
            CHECK.due("before " + nozzles, x.setUp(nozzles), before);
            before = nozzles;
        }
    }

    /** "nozzles, pumps, settings, wind and counts are as initially": for the least, some and the most nozzles. */
    private static void setUpMakesAllInitial() {
        for (int nozzles : Edges.inside(1, 12)) {
            FountainShow x = Shows.busy();
            x.setUp(nozzles);
            for (int what : new int[] {0, 2, 3, 4, 5, 6, 7}) {
                CHECK.due("set up " + nozzles + ", state " + what, x.state(what), 0);
            }
            FountainShow fresh = new FountainShow();
            fresh.setUp(nozzles);
            Shows.write(fresh, "12:bd=");
            EDGES.sameLines("set up " + nozzles, Shows.picture(x), Shows.picture(fresh));
        }
    }

    /** F as well is 0 then, neither below nor above. */
    private static void setUpStopsTheWind() {
        FountainShow x = Shows.busy();
        x.setUp(1);
        x.set(FountainShow.FILTER, 2);
        x.wind(2);
        x.tick(1);
        CHECK.due("not below", x.state(4), 1);
        x.setUp(1);
        x.set(FountainShow.FILTER, 5);
        x.wind(111);
        x.tick(18);
        // From F = 1 it would be 109.
        CHECK.due("not above", x.state(4), 108);
    }

    /** "there are no cues": of 60 none is left, and there is room for 60. */
    private static void setUpLeavesNoCues() {
        FountainShow x = Shows.withCues(60);
        x.setUp(4);
        CHECK.due("none is left", x.state(2), 0);
        CHECK.due("no first", x.part(0, 0), NO_SUCH);
        for (int i = 0; i < 60; i++) {
            CHECK.due("cue " + i, x.cue(5, 1, 1), i);
        }
        CHECK.due("no more", x.cue(5, 1, 1), FountainShow.TOO_MANY);
    }

    /** "and the time is 0": from the greatest time too. */
    private static void setUpGoesToTheTimeZero() {
        FountainShow x = Shows.at(200000);
        x.setUp(4);
        CHECK.due("time", x.state(0), 0);
        CHECK.due("ticks are possible", x.tick(2000), 2000);
    }

    /** "Makes a new show": what was commanded up to 50 ticks ago does not come, nor for the nozzle 11. */
    private static void setUpForgetsLaggingCommands() {
        FountainShow x = Shows.quick(12);
        x.command(4095, 1000);
        x.tick(51);
        x.setUp(1);
        x.setUp(12);
        CHECK.due("no command", x.spray(11, 6), 0);
        x.nozzle(0, FountainShow.LAG, 50);
        x.nozzle(11, FountainShow.LAG, 50);
        x.tick(60);
        CHECK.due("nozzle 0", x.spray(0, 11), 0);
        CHECK.due("nozzle 11", x.spray(11, 11), 0);
    }

    /** "(The pad .. stay.)": empty, full and with a cue. */
    private static void padStays() {
        for (String text : new String[] {"", "7:c=9", "0:a=0,1:b=1,2:c=2,3:d=3,4:e=4,5:f=5,6:g=6,7:h=7,8:i=8,9:j=9,10:k=10,9999:kl=1000"}) {
            FountainShow x = new FountainShow();
            Shows.write(x, text);
            int fault = x.fault();
            x.setUp(12);
            CHECK.due("length of " + text, x.state(9), text.length());
            CHECK.due("fault of " + text, x.fault(), fault);
        }
    }

    /** "(.. the slots stay.)": a filled and an empty one. */
    private static void slotsStay() {
        FountainShow x = new FountainShow();
        x.setUp(12);
        x.tick(9);
        x.save(1);
        x.setUp(1);
        CHECK.due("the empty one", x.restore(0), FountainShow.NOT_POSSIBLE);
        CHECK.due("the filled one", x.restore(1), 9);
        CHECK.due("its nozzles", x.state(1), 12);
    }
}

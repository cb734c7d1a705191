/** Each boundary that the promises 14 to 18 name: at it, just inside, just outside. */
public final class AskEdgesTest {
    private static final int NONE = FountainShow.NONE;
    private static final int NO_SUCH = FountainShow.NO_SUCH;
    private static final int BAD_VALUE = FountainShow.BAD_VALUE;
    private static final Check CHECK = new Check();
    private static final Edges EDGES = new Edges(CHECK);

    public static void main(String[] args) {
        nozzlesToAskFor();
        whatOfANozzle();
        behindTheLatestTick();
        behindALaterCommand();
        pumpsToAskFor();
        whatOfAPump();
        noDemandBeforeTheFirstTick();
        ticksInWhichItWasShort();
        loadOfNoSuchPump();
        loadWithoutCapacity();
        loadIsNotOfTheDemand();
        loadAtTheEnds();
        loadIsAFloat();
        meanOfOne();
        meanOfTwelve();
        meanIsADouble();
        whatOfTheShow();
        nextCueAtItsTime();
        noneIsNext();
        nextCueOfTheLastTimes();
        lengthOfThePad();
        wetTicks();
        CHECK.end();
    }

    /** spray: "NO_SUCH if there is no such nozzle": of 1, of 4, of 12. */
    private static void nozzlesToAskFor() {
        for (int nozzles : new int[] {1, 4, 12}) {
            for (int nozzle : Edges.outside(0, nozzles - 1)) {
                CHECK.due("of " + nozzles + ", " + nozzle, Shows.quick(nozzles).spray(nozzle, 0), NO_SUCH);
            }
            CHECK.due("of " + nozzles + ", the first", Shows.quick(nozzles).spray(0, 0), 10);
            CHECK.due("of " + nozzles + ", the last", Shows.quick(nozzles).spray(nozzles - 1, 0), 10);
        }
    }

    /** spray: "what: 0 to 5 for its settings .., 11 for its greatest height so far": each number is another one. */
    private static void whatOfANozzle() {
        EDGES.refusedOutside("what", 0, 11, BAD_VALUE, Shows::busy, (x, v) -> x.spray(0, v));
        FountainShow x = Shows.small(2);
        int[] due = {2, 3000, 0, 700, 1, 90, 1000, 700, 1400, 1470, 66, 1500};
        for (int s = 0; s < 6; s++) {
            x.nozzle(1, s, due[s]);
        }
        x.command(2, 1000);
        x.wind(50);
        x.nozzle(1, FountainShow.HEIGHT, 3062);
        x.tick(1);
        x.nozzle(1, FountainShow.HEIGHT, 3000);
        x.command(2, 0);
        x.tick(1);
        x.command(2, 1000);
        x.tick(1);
        for (int what = 0; what < 12; what++) {
            CHECK.due("what " + what, x.spray(1, what), due[what]);
        }
    }

    /** "6 to 11 as they are behind the latest tick": settings and the wind, changed then, change none of them. */
    private static void behindTheLatestTick() {
        FountainShow x = Shows.small(1);
        x.wind(60);
        x.command(1, 800);
        x.tick(1);
        int[] due = {800, 800, 800, 640, 3, 640};
        int[] settings = {100, 5000, 50, 1, 2, 100};
        for (int s = 0; s < 6; s++) {
            x.nozzle(0, s, settings[s]);
        }
        x.wind(0);
        x.set(FountainShow.CUT, 0);
        x.pump(0, FountainShow.CAPACITY, 0);
        for (int what = 6; what < 12; what++) {
            CHECK.due("what " + what, x.spray(0, what), due[what - 6]);
        }
    }

    /** "or behind a later command()": the command alone is another one, before the first tick too. */
    private static void behindALaterCommand() {
        FountainShow x = Shows.small(1);
        x.command(1, 800);
        CHECK.due("before the first tick", x.spray(0, 6), 800);
        CHECK.due("no opening", x.spray(0, 7), 0);
        x.tick(1);
        x.command(1, 1000);
        x.command(1, 300);
        CHECK.due("behind two", x.spray(0, 6), 300);
        int[] due = {800, 800, 640};
        for (int what = 7; what < 10; what++) {
            CHECK.due("what " + what, x.spray(0, what), due[what - 7]);
        }
        x.cue(0, 1, 5);
        x.cue(1, 1, 6);
        CHECK.due("cues wait for their tick", x.spray(0, 6), 300);
    }

    /** pressure: "NO_SUCH if there is no such pump". */
    private static void pumpsToAskFor() {
        EDGES.refusedOutside("pump", 0, 2, NO_SUCH, Shows::busy, (x, v) -> x.pressure(v, 0));
        for (int pump = 0; pump < 3; pump++) {
            CHECK.due("pump " + pump, Shows.busy().pressure(pump, 0), 5 + pump);
        }
    }

    /** pressure: "what: 0 for its CAPACITY .. 4 for the number of ticks in which it was short". */
    private static void whatOfAPump() {
        EDGES.refusedOutside("what", 0, 4, BAD_VALUE, Shows::busy, (x, v) -> x.pressure(0, v));
        FountainShow x = Shows.quick(1);
        x.nozzle(0, FountainShow.PUMP, 2);
        x.pump(2, FountainShow.CAPACITY, 9);
        x.pump(2, FountainShow.RISE, 3);
        x.command(1, 1000);
        x.tick(2);
        int[] due = {9, 3, 6000, 10000, 2};
        for (int what = 0; what < 5; what++) {
            CHECK.due("what " + what, x.pressure(2, what), due[what]);
        }
    }

    /** "(0 for 3 before the first tick)": of a new show, a set up one and one that has gone back; then behind a tick. */
    private static void noDemandBeforeTheFirstTick() {
        FountainShow x = Shows.quick(1);
        x.command(1, 1000);
        CHECK.due("new", x.pressure(0, 3), 0);
        x.tick(1);
        CHECK.due("behind the first", x.pressure(0, 3), 10000);
        x.rewind();
        CHECK.due("gone back", x.pressure(0, 3), 0);
        x.command(1, 500);
        x.tick(1);
        CHECK.due("behind the first then", x.pressure(0, 3), 5000);
        x.setUp(1);
        CHECK.due("set up", x.pressure(0, 3), 0);
    }

    /** Counted are ticks that were short, none before, none behind. */
    private static void ticksInWhichItWasShort() {
        FountainShow x = Shows.quick(1);
        x.pump(0, FountainShow.CAPACITY, 0);
        x.cue(1, 1, 1);
        x.cue(3, 1, 0);
        int[] due = {0, 1, 2, 2, 2};
        for (int i = 0; i < 5; i++) {
            x.tick(1);
            CHECK.due("behind the tick " + i, x.pressure(0, 4), due[i]);
        }
    }

    /** load: "-1 if there is no such pump". */
    private static void loadOfNoSuchPump() {
        for (int pump : Edges.outside(0, 2)) {
            CHECK.due("load of " + pump, new FountainShow().load(pump), -1.0);
        }
        for (int pump = 0; pump < 3; pump++) {
            CHECK.due("load of " + pump, new FountainShow().load(pump), 0.0);
        }
    }

    /** load: "0 if CAPACITY is 0", while it still flows too; not if it is 1. */
    private static void loadWithoutCapacity() {
        FountainShow x = Shows.quick(1);
        x.command(1, 1000);
        x.tick(1);
        x.pump(0, FountainShow.CAPACITY, 0);
        CHECK.due("it flows", x.pressure(0, 2), 10000);
        CHECK.due("without capacity", x.load(0), 0.0);
        x.pump(0, FountainShow.CAPACITY, 1);
        CHECK.due("with the least", x.load(0), 10.0);
        x.pump(0, FountainShow.CAPACITY, 2000);
        CHECK.due("with the most", x.load(0), (double) (10000f / 2000000f));
    }

    /** "Returns its flow": not the demand, below which it is while it rises, and above which while it falls. */
    private static void loadIsNotOfTheDemand() {
        FountainShow x = Shows.quick(1);
        x.pump(0, FountainShow.RISE, 2);
        x.command(1, 1000);
        x.tick(3);
        CHECK.due("rising", x.load(0), (double) (6000f / 100000f));
        x.tick(2);
        x.command(1, 100);
        x.tick(1);
        CHECK.due("falling", x.load(0), (double) (8000f / 100000f));
    }

    /** One below all that it can, all of it. */
    private static void loadAtTheEnds() {
        FountainShow x = Shows.small(1);
        x.pump(0, FountainShow.CAPACITY, 1);
        x.command(1, 999);
        x.tick(1);
        CHECK.due("one below all", x.load(0), (double) 0.999f);
        x.command(1, 1000);
        x.tick(1);
        CHECK.due("all", x.load(0), 1.0);
        x.command(1, 1);
        x.tick(1);
        CHECK.due("the least", x.load(0), (double) 0.001f);
    }

    /** "Returns its flow, as a float, divided by ..": a third is that of a float. */
    private static void loadIsAFloat() {
        FountainShow x = Shows.quick(1);
        x.pump(0, FountainShow.CAPACITY, 30);
        x.command(1, 1000);
        x.tick(1);
        CHECK.due("a third", x.load(0), (double) (1f / 3f));
        CHECK.isTrue("not that of a double", x.load(0) != 1.0 / 3.0);
    }

    /** meanHeight of the least number of nozzles. */
    private static void meanOfOne() {
        FountainShow x = Shows.small(1);
        CHECK.due("of nothing", x.meanHeight(), 0.0);
        x.command(1, 999);
        x.tick(1);
        CHECK.due("its height", x.meanHeight(), 998.0);
    }

    /** meanHeight of the greatest number of nozzles: the last one counts; the greatest sum. */
    private static void meanOfTwelve() {
        FountainShow x = Shows.small(12);
        x.command(2048, 1000);
        x.tick(1);
        CHECK.due("of the last", x.meanHeight(), 1000.0 / 12);
        for (int n = 0; n < 12; n++) {
            x.nozzle(n, FountainShow.HEIGHT, 5000);
        }
        x.command(4095, 1000);
        x.tick(1);
        CHECK.due("greatest", x.meanHeight(), 5000.0);
    }

    /** "the sum of their heights, as a double, divided by their number": not rounded down. */
    private static void meanIsADouble() {
        FountainShow x = Shows.small(3);
        x.nozzle(0, FountainShow.HEIGHT, 1);
        x.command(1, 1000);
        x.tick(1);
        CHECK.due("a third", x.meanHeight(), 1.0 / 3.0);
        x.nozzle(1, FountainShow.HEIGHT, 1);
        x.command(2, 1000);
        x.tick(1);
        CHECK.due("two thirds", x.meanHeight(), 2.0 / 3.0);
    }

    /** state: "BAD_VALUE if what is not 0 to 15"; each number is another one. */
    private static void whatOfTheShow() {
        EDGES.refusedOutside("what", 0, 15, BAD_VALUE, Shows::busy, (x, v) -> x.state(v));
        FountainShow x = Shows.small(5);
        int[] settings = {1, 21, 90, 23, 24, 2500};
        for (int s = 0; s < 6; s++) {
            x.set(s, settings[s]);
        }
        for (int i = 0; i < 7; i++) {
            x.cue(i + 3, 1, 1000);
        }
        x.nozzle(0, FountainShow.SPEED, 600);
        x.wind(30);
        x.tick(4);
        x.wind(10);
        x.tick(2);
        x.wind(17);
        Shows.write(x, "12345678");
        int[] due = {6, 5, 7, 17, 10, 1, 2, 0, 3, 8, 1, 21, 90, 23, 24, 2500};
        for (int what = 0; what < 16; what++) {
            CHECK.due("what " + what, x.state(what), due[what]);
        }
    }

    /** "the first one whose time is not less than the present time": one before its time, at it, one behind it. */
    private static void nextCueAtItsTime() {
        FountainShow x = Shows.at(3);
        x.cue(4, 1, 1);
        x.cue(4, 1, 2);
        x.cue(7, 1, 3);
        int[] due = {0, 0, 2, 2, 2, NONE, NONE};
        for (int i = 0; i < 7; i++) {
            CHECK.due("next at the time " + (3 + i), x.state(8), due[i]);
            x.tick(1);
        }
    }

    /** "NONE if there is none": without cues, with a passed one, with one that is removed. */
    private static void noneIsNext() {
        FountainShow x = new FountainShow();
        CHECK.due("no cues", x.state(8), NONE);
        x.cue(0, 1, 1);
        CHECK.due("one", x.state(8), 0);
        x.remove(0);
        CHECK.due("removed", x.state(8), NONE);
        x.tick(1);
        x.cue(0, 1, 1);
        CHECK.due("passed", x.state(8), NONE);
        x.move(0, 1);
        CHECK.due("moved to the present", x.state(8), 0);
    }

    /** At the times 99999, 100000 and 100001, and of sixty the last. */
    private static void nextCueOfTheLastTimes() {
        FountainShow x = Shows.at(99999);
        x.cue(100000, 1, 1);
        CHECK.due("before", x.state(8), 0);
        x.tick(1);
        CHECK.due("at it", x.state(8), 0);
        x.tick(1);
        CHECK.due("behind", x.state(8), NONE);
        FountainShow y = Shows.withCues(60);
        y.tick(69);
        CHECK.due("the last of sixty", y.state(8), 59);
        y.tick(1);
        CHECK.due("none of sixty", y.state(8), NONE);
    }

    /** 0, 1, 79 and 80 characters. */
    private static void lengthOfThePad() {
        for (int length : Edges.inside(0, 80)) {
            FountainShow x = new FountainShow();
            for (int i = 0; i < length; i++) {
                x.say('a');
            }
            CHECK.due("length " + length, x.state(9), length);
        }
    }

    /** Counted are ticks that were wet, none before, none behind. */
    private static void wetTicks() {
        FountainShow x = Shows.small(1);
        x.set(FountainShow.SPLASH, 0);
        x.wind(10);
        x.cue(1, 1, 1000);
        x.cue(3, 1, 0);
        int[] due = {0, 1, 2, 2, 2};
        for (int i = 0; i < 5; i++) {
            x.tick(1);
            CHECK.due("behind the tick " + i, x.state(7), due[i]);
        }
    }
}

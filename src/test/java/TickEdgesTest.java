/** Each boundary that the steps of a tick and the promises 11 to 13 name: at it, just inside, just outside. */
public final class TickEdgesTest {
    private static final int BAD_VALUE = FountainShow.BAD_VALUE;
    private static final int NOT_POSSIBLE = FountainShow.NOT_POSSIBLE;
    private static final Check CHECK = new Check();
    private static final Edges EDGES = new Edges(CHECK);

    public static void main(String[] args) {
        setsAreBitMasks();
        missingNozzlesAreLeftOut();
        setsOfACommand();
        valuesOfACommand();
        numbersOfTicks();
        timeIsAtMostTwoHundredThousand();
        timeIncreasesByOne();
        cuesOfThePresentTime();
        cuesAtTheEndsOfTime();
        cuesInTheirOrder();
        passedCuesHaveNoEffect();
        lagInTicks();
        noneLagTicksAgo();
        greatestLagOfALongShow();
        directlyBehindStepOne();
        speedToTheGoal();
        leastAndGreatestSpeed();
        flowTowardTheLesser();
        riseToTheGoal();
        leastAndGreatestCapacity();
        fallOfAPump();
        demandAtMostTheFlow();
        demandOfNothing();
        pumpsDoNotMix();
        shareRoundedDown();
        heightRoundedDown();
        speedRoundedDown();
        greatestHeightIsKept();
        driftRoundedDown();
        driftInTheMeasuredWind();
        greatestDrift();
        shortIfDemandIsGreater();
        wetIfDriftIsGreater();
        wetByAnyNozzle();
        shortOfAnyPump();
        rewindAtTheEndsOfTime();
        rewindMakesCountsInitial();
        rewindLeavesNoTicks();
        rewindBringsCuesBack();
        CHECK.end();
    }

    private static FountainShow one() {
        return Shows.small(1);
    }

    /** "bit i stands for nozzle i": the first, the last, all but one. */
    private static void setsAreBitMasks() {
        for (int set : new int[] {1, 2, 3, 1024, 2048, 2049, 4094, 4095}) {
            FountainShow x = new FountainShow();
            x.setUp(12);
            x.cue(0, set, 600);
            x.tick(1);
            FountainShow y = new FountainShow();
            y.setUp(12);
            y.command(set, 600);
            for (int n = 0; n < 12; n++) {
                int want = (set & 1 << n) == 0 ? 0 : 600;
                CHECK.due("cue for " + set + ", nozzle " + n, x.spray(n, 6), want);
                CHECK.due("command to " + set + ", nozzle " + n, y.spray(n, 6), want);
            }
        }
    }

    /** "(nozzles that do not exist are left out)": the last that there is, the first that there is not, both. */
    private static void missingNozzlesAreLeftOut() {
        int[][] setsAndCommands = {{8, 600}, {16, 0}, {24, 600}, {4080, 0}, {4095, 600}};
        for (int[] row : setsAndCommands) {
            FountainShow x = new FountainShow();
            CHECK.due("command to " + row[0], x.command(row[0], 600), 0);
            CHECK.due("nozzle 3 of " + row[0], x.spray(3, 6), row[1]);
            FountainShow y = new FountainShow();
            y.cue(0, row[0], 600);
            CHECK.due("tick with " + row[0], y.tick(1), 1);
            CHECK.due("nozzle 3 of the cue for " + row[0], y.spray(3, 6), row[1]);
        }
    }

    /** command: "the set, 1 to 4095". */
    private static void setsOfACommand() {
        EDGES.refusedOutside("set", 1, 4095, BAD_VALUE, Shows::busy, (x, v) -> x.command(v, 5));
        EDGES.takenInside("set", 1, 4095, Shows::busy, (x, v) -> x.command(v, 5), (x, v) -> 50);
    }

    /** command: "0 to 1000". */
    private static void valuesOfACommand() {
        EDGES.refusedOutside("value", 0, 1000, BAD_VALUE, Shows::busy, (x, v) -> x.command(1, v));
        for (int value : Edges.inside(0, 1000)) {
            FountainShow x = one();
            CHECK.due("command " + value, x.command(1, value), 0);
            CHECK.due("the command " + value, x.spray(0, 6), value);
            x.tick(1);
            CHECK.due("the opening " + value, x.spray(0, 7), value);
        }
    }

    /** tick: "1 to 2000". */
    private static void numbersOfTicks() {
        EDGES.refusedOutside("ticks", 1, 2000, BAD_VALUE, Shows::busy, (x, v) -> x.tick(v));
        EDGES.takenInside("ticks", 1, 2000, Shows::busy, (x, v) -> x.tick(v), (x, v) -> 50 + v);
        FountainShow x = one();
        x.cue(1998, 1, 5);
        x.cue(1999, 1, 6);
        x.cue(2000, 1, 7);
        x.tick(2000);
        CHECK.due("all 2000 were made, and no more", x.spray(0, 7), 6);
    }

    /** "NOT_POSSIBLE if the time would be greater than 200000". */
    private static void timeIsAtMostTwoHundredThousand() {
        CHECK.due("to 199999", Shows.at(199998).tick(1), 199999);
        CHECK.due("to 200000", Shows.at(199998).tick(2), 200000);
        EDGES.refused("to 200001", NOT_POSSIBLE, () -> Shows.at(199998), x -> x.tick(3));
        CHECK.due("2000 from 198000", Shows.at(198000).tick(2000), 200000);
        EDGES.refused("2000 from 198001", NOT_POSSIBLE, () -> Shows.at(198001), x -> x.tick(2000));
        CHECK.due("one from 199999", Shows.at(199999).tick(1), 200000);
        EDGES.refused("one from 200000", NOT_POSSIBLE, () -> Shows.at(200000), x -> x.tick(1));
    }

    /** "The time increases by 1", "Returns the time then". */
    private static void timeIncreasesByOne() {
        FountainShow x = new FountainShow();
        for (int time = 0; time < 3; time++) {
            CHECK.due("before", x.state(0), time);
            CHECK.due("tick", x.tick(1), time + 1);
            CHECK.due("command", x.command(1, 1), time + 1);
        }
    }

    /** "All cues whose time is the present time are carried out": at the time 5, not those of 4 and 6. */
    private static void cuesOfThePresentTime() {
        int[][] timesAndCommands = {{4, 0}, {5, 700}, {6, 0}};
        for (int[] row : timesAndCommands) {
            FountainShow x = Shows.at(5);
            x.cue(row[0], 1, 700);
            x.tick(1);
            CHECK.due("a cue of " + row[0] + " in the tick of 5", x.spray(0, 6), row[1]);
            x.tick(1);
            CHECK.due("a cue of " + row[0] + " in the tick of 6", x.spray(0, 6), row[0] == 4 ? 0 : 700);
        }
    }

    /** The cues of the least and the greatest time are carried out, and those beside them. */
    private static void cuesAtTheEndsOfTime() {
        FountainShow x = new FountainShow();
        x.cue(0, 1, 5);
        x.cue(1, 1, 6);
        x.tick(1);
        CHECK.due("of 0", x.spray(0, 6), 5);
        x.tick(1);
        CHECK.due("of 1", x.spray(0, 6), 6);
        FountainShow y = Shows.at(99999);
        y.cue(99999, 1, 7);
        y.cue(100000, 1, 8);
        y.tick(1);
        CHECK.due("of 99999", y.spray(0, 6), 7);
        y.tick(1);
        CHECK.due("of 100000", y.spray(0, 6), 8);
    }

    /** "in the order of the cues": the last of a time counts, of two, of sixty, and with sets that overlap. */
    private static void cuesInTheirOrder() {
        FountainShow x = new FountainShow();
        x.cue(3, 3, 100);
        x.cue(3, 6, 200);
        x.tick(4);
        CHECK.due("only in the first", x.spray(0, 6), 100);
        CHECK.due("in both", x.spray(1, 6), 200);
        CHECK.due("only in the second", x.spray(2, 6), 200);
        FountainShow y = new FountainShow();
        for (int i = 0; i < 60; i++) {
            y.cue(3, 1, 500 - i);
        }
        y.tick(4);
        CHECK.due("the last of sixty", y.spray(0, 6), 441);
    }

    /** "cues whose time has passed have no effect", "Cues can be changed at any time". */
    private static void passedCuesHaveNoEffect() {
        FountainShow x = Shows.at(7);
        x.cue(6, 1, 100);
        x.tick(50);
        CHECK.due("passed by one", x.spray(0, 6), 0);
        x.move(0, 50);
        x.tick(5);
        CHECK.due("moved to a time that has passed by one", x.spray(0, 6), 0);
        x.move(0, 6);
        CHECK.due("moved to the present", x.state(8), 0);
        x.tick(1);
        CHECK.due("is carried out", x.spray(0, 6), 100);
        x.cue(64, 1, 200);
        x.tick(1);
        x.remove(1);
        x.tick(5);
        CHECK.due("removed before its time", x.spray(0, 6), 100);
    }

    /** "the command that it had .. LAG ticks ago": LAG 0, 1, 49, 50, for a command of one tick. */
    private static void lagInTicks() {
        for (int lag : Edges.inside(0, 50)) {
            FountainShow x = one();
            x.nozzle(0, FountainShow.LAG, lag);
            x.cue(3, 1, 800);
            x.cue(4, 1, 100);
            x.tick(3 + lag);
            CHECK.due("lag " + lag + ", one tick before", x.spray(0, 7), 0);
            x.tick(1);
            CHECK.due("lag " + lag, x.spray(0, 7), 800);
            x.tick(1);
            CHECK.due("lag " + lag + ", one tick behind", x.spray(0, 7), 100);
        }
    }

    /** "(0 if there was none)": in the tick of the time LAG - 1 there was none, in that of LAG it was the first. */
    private static void noneLagTicksAgo() {
        for (int lag : new int[] {1, 2, 49, 50}) {
            FountainShow x = one();
            x.command(1, 1000);
            x.tick(lag - 1);
            x.nozzle(0, FountainShow.LAG, lag);
            x.tick(1);
            CHECK.due("none " + lag + " ticks ago", x.spray(0, 7), 0);
            x.tick(1);
            CHECK.due("the first " + lag + " ticks ago", x.spray(0, 7), 1000);
        }
    }

    /** Each tick has a command of its own, longer than the greatest LAG lasts. */
    private static void greatestLagOfALongShow() {
        FountainShow x = one();
        for (int i = 1; i <= 110; i++) {
            x.command(1, i);
            x.tick(1);
        }
        CHECK.due("the latest", x.spray(0, 7), 110);
        x.nozzle(0, FountainShow.LAG, 50);
        x.tick(1);
        CHECK.due("50 ticks ago", x.spray(0, 7), 61);
        x.nozzle(0, FountainShow.LAG, 49);
        x.tick(1);
        CHECK.due("49 ticks ago", x.spray(0, 7), 63);
        x.nozzle(0, FountainShow.LAG, 1);
        x.command(1, 500);
        x.tick(1);
        CHECK.due("one tick ago", x.spray(0, 7), 110);
        x.nozzle(0, FountainShow.LAG, 0);
        x.tick(1);
        CHECK.due("this tick", x.spray(0, 7), 500);
    }

    /** "directly behind step 1": a cue comes behind a command by hand; a command behind the tick is of the next one. */
    private static void directlyBehindStepOne() {
        FountainShow x = one();
        x.cue(0, 1, 300);
        x.command(1, 900);
        x.tick(1);
        CHECK.due("the cue", x.spray(0, 7), 300);
        x.command(1, 900);
        CHECK.due("not yet", x.spray(0, 7), 300);
        x.tick(1);
        CHECK.due("the command", x.spray(0, 7), 900);
        x.command(1, 200);
        x.command(1, 250);
        x.nozzle(0, FountainShow.LAG, 1);
        x.tick(2);
        CHECK.due("the latter of two", x.spray(0, 7), 250);
    }

    /** "moves toward the goal by SPEED, but not beyond it": the way is one less, as long, one more; up and down. */
    private static void speedToTheGoal() {
        int[][] speedsAndOpenings = {{399, 399, 400}, {400, 400, 400}, {401, 400, 400}};
        for (int[] row : speedsAndOpenings) {
            FountainShow x = one();
            x.nozzle(0, FountainShow.SPEED, row[0]);
            x.command(1, 400);
            x.tick(1);
            CHECK.due("up by " + row[0], x.spray(0, 7), row[1]);
            x.tick(1);
            CHECK.due("up again by " + row[0], x.spray(0, 7), row[2]);
            x.command(1, 0);
            x.tick(1);
            CHECK.due("down by " + row[0], x.spray(0, 7), 400 - row[1]);
            x.tick(1);
            CHECK.due("down again by " + row[0], x.spray(0, 7), 0);
        }
    }

    /** SPEED 1 and 2, 999 and 1000, over the whole way. */
    private static void leastAndGreatestSpeed() {
        int[][] speedsAndTicks = {{1, 1000}, {2, 500}, {999, 2}, {1000, 1}};
        for (int[] row : speedsAndTicks) {
            FountainShow x = one();
            x.nozzle(0, FountainShow.SPEED, row[0]);
            x.command(1, 1000);
            if (row[1] > 1) {
                x.tick(row[1] - 1);
                CHECK.due("nearly up by " + row[0], x.spray(0, 7), row[0] * (row[1] - 1));
            }
            x.tick(1);
            CHECK.due("up by " + row[0], x.spray(0, 7), 1000);
        }
    }

    /** A show with two nozzles of the SIZE 1 at the pump 0, the one at 1000, the other one at what is left. */
    private static FountainShow demanding(int demand) {
        FountainShow x = Shows.small(2);
        x.command(1, Math.min(demand, 1000));
        x.command(2, Math.max(demand - 1000, 0));
        return x;
    }

    /** "the lesser one of its demand and 1000 * CAPACITY": the demand is one less, as much, one more. */
    private static void flowTowardTheLesser() {
        int[][] demandsAndFlows = {{999, 999}, {1000, 1000}, {1001, 1000}};
        for (int[] row : demandsAndFlows) {
            FountainShow x = demanding(row[0]);
            x.pump(0, FountainShow.CAPACITY, 1);
            x.tick(3);
            CHECK.due("demand " + row[0], x.pressure(0, 3), row[0]);
            CHECK.due("flow for " + row[0], x.pressure(0, 2), row[1]);
        }
    }

    /** "by 1000 * RISE, but not beyond it": the way is one less, as long, one more. */
    private static void riseToTheGoal() {
        int[][] demandsAndFlows = {{999, 999, 999}, {1000, 1000, 1000}, {1001, 1000, 1001}};
        for (int[] row : demandsAndFlows) {
            FountainShow x = demanding(row[0]);
            x.pump(0, FountainShow.RISE, 1);
            x.tick(1);
            CHECK.due("rise for " + row[0], x.pressure(0, 2), row[1]);
            x.tick(1);
            CHECK.due("then for " + row[0], x.pressure(0, 2), row[2]);
        }
    }

    /** CAPACITY 0, 1, 1999 and 2000, RISE 499 and 500, for the greatest demand. */
    private static void leastAndGreatestCapacity() {
        int[][] capacitiesAndFlows = {{0, 0}, {1, 1000}, {1199, 1199000}, {1200, 1200000}, {1999, 1200000}, {2000, 1200000}};
        for (int[] row : capacitiesAndFlows) {
            FountainShow x = Shows.quick(12);
            for (int n = 0; n < 12; n++) {
                x.nozzle(n, FountainShow.SIZE, 100);
            }
            x.pump(0, FountainShow.CAPACITY, row[0]);
            x.pump(0, FountainShow.RISE, 500);
            x.command(4095, 1000);
            x.tick(1);
            CHECK.due("first, with " + row[0], x.pressure(0, 2), Math.min(row[1], 500000));
            x.pump(0, FountainShow.RISE, 499);
            x.tick(1);
            CHECK.due("then, with " + row[0], x.pressure(0, 2), Math.min(row[1], 999000));
            x.tick(1);
            CHECK.due("at last, with " + row[0], x.pressure(0, 2), row[1]);
            CHECK.due("demand", x.pressure(0, 3), 1200000);
        }
    }

    /** Toward less, by 1000 * RISE: the way is one less, as long, one more; and toward a CAPACITY of 0. */
    private static void fallOfAPump() {
        int[][] demandsAndFlows = {{1001, 1001}, {1000, 1000}, {999, 1000}};
        for (int[] row : demandsAndFlows) {
            FountainShow x = demanding(2000);
            x.tick(1);
            x.pump(0, FountainShow.RISE, 1);
            x.command(1, Math.min(row[0], 1000));
            x.command(2, row[0] > 1000 ? 1 : 0);
            x.tick(1);
            CHECK.due("falls for " + row[0], x.pressure(0, 2), row[1]);
            x.tick(1);
            CHECK.due("then for " + row[0], x.pressure(0, 2), row[0]);
        }
        FountainShow x = demanding(1001);
        x.tick(1);
        x.pump(0, FountainShow.RISE, 1);
        x.pump(0, FountainShow.CAPACITY, 0);
        x.tick(1);
        CHECK.due("falls without capacity", x.pressure(0, 2), 1);
        x.tick(1);
        CHECK.due("to 0", x.pressure(0, 2), 0);
    }

    /** "has its demand as its flow if D is at most f, and (its demand) * f / D otherwise": D is f - 1, f, f + 1. */
    private static void demandAtMostTheFlow() {
        int[][] demandsAndShares = {{999, 999, 0}, {1000, 1000, 0}, {1001, 999, 0}, {2000, 500, 500}, {1999, 500, 499}};
        for (int[] row : demandsAndShares) {
            FountainShow x = demanding(row[0]);
            x.pump(0, FountainShow.CAPACITY, 1);
            x.tick(1);
            CHECK.due("first of " + row[0], x.spray(0, 8), row[1]);
            CHECK.due("second of " + row[0], x.spray(1, 8), row[2]);
        }
        FountainShow x = demanding(2000);
        x.tick(1);
        x.pump(0, FountainShow.RISE, 1);
        x.command(1, 500);
        x.command(2, 499);
        x.tick(1);
        CHECK.due("the pump still gives more", x.pressure(0, 2), 1000);
        CHECK.due("the demand is less", x.spray(0, 8), 500);
        CHECK.due("and flows", x.spray(1, 8), 499);
    }

    /** D and f are 0: nothing flows. D is 1: it flows. */
    private static void demandOfNothing() {
        FountainShow x = one();
        x.pump(0, FountainShow.CAPACITY, 0);
        x.tick(1);
        CHECK.due("no flow", x.spray(0, 8), 0);
        CHECK.due("no demand", x.pressure(0, 3), 0);
        CHECK.due("not short", x.pressure(0, 4), 0);
        x.command(1, 1);
        x.tick(1);
        CHECK.due("no capacity, no flow", x.spray(0, 8), 0);
        CHECK.due("short", x.pressure(0, 4), 1);
        x.pump(0, FountainShow.CAPACITY, 1);
        x.tick(1);
        CHECK.due("all of it", x.spray(0, 8), 1);
    }

    /** "the demand of a pump is the sum of those of its nozzles": of the first, an inner and the last pump. */
    private static void pumpsDoNotMix() {
        FountainShow x = Shows.small(12);
        for (int n = 0; n < 12; n++) {
            x.nozzle(n, FountainShow.PUMP, n == 11 ? 2 : n == 0 ? 0 : 1);
        }
        x.command(1, 100);
        x.command(2046, 10);
        x.command(2048, 1);
        x.pump(1, FountainShow.CAPACITY, 0);
        x.tick(1);
        CHECK.due("pump 0", x.pressure(0, 3), 100);
        CHECK.due("pump 1", x.pressure(1, 3), 100);
        CHECK.due("pump 2", x.pressure(2, 3), 1);
        CHECK.due("nozzle 0 flows", x.spray(0, 8), 100);
        CHECK.due("nozzle 10 does not", x.spray(10, 8), 0);
        CHECK.due("nozzle 11 flows", x.spray(11, 8), 1);
    }

    /** "Divisions are rounded down": a share just below, at and just above a whole number. */
    private static void shareRoundedDown() {
        // f = 1000 and D = 1500: two thirds flow.
        int[][] commandsAndShares = {{3, 2, 331}, {4, 2, 330}, {5, 3, 330}, {500, 333, 0}};
        for (int[] row : commandsAndShares) {
            FountainShow x = Shows.small(3);
            x.pump(0, FountainShow.CAPACITY, 1);
            x.command(1, row[0]);
            x.command(2, 1000);
            x.command(4, 500 - row[0]);
            x.tick(1);
            CHECK.due("share of " + row[0], x.spray(0, 8), row[1]);
            CHECK.due("share of 1000", x.spray(1, 8), 666);
            CHECK.due("share of the rest", x.spray(2, 8), row[2]);
        }
    }

    /** "HEIGHT * v * v / 1000000, with v as its flow / SIZE": each division just below and at a whole number. */
    private static void heightRoundedDown() {
        int[][] heightsAndCommands = {{1000, 31, 0}, {1000, 32, 1}, {1, 999, 0}, {1, 1000, 1}, {5000, 999, 4990},
            {5000, 1000, 5000}, {4999, 1000, 4999}, {5000, 14, 0}, {5000, 15, 1}, {4987, 920, 4220}};
        for (int[] row : heightsAndCommands) {
            FountainShow x = one();
            x.nozzle(0, FountainShow.HEIGHT, row[0]);
            x.command(1, row[1]);
            x.tick(1);
            CHECK.due("HEIGHT " + row[0] + ", v " + row[1], x.spray(0, 9), row[2]);
        }
    }

    /** "v as its flow / SIZE": the flow is one less than, as much as and more than 200 times the SIZE 3. */
    private static void speedRoundedDown() {
        // Of 1000, the first nozzle, whose demand is 1200, has 1200000 / (1200 + the command of the second one).
        int[][] commandsFlowsHeights = {{801, 599, 198}, {800, 600, 200}, {796, 601, 200}, {793, 602, 200}, {790, 603, 202}};
        for (int[] row : commandsFlowsHeights) {
            FountainShow x = Shows.small(2);
            x.nozzle(0, FountainShow.SIZE, 3);
            x.nozzle(0, FountainShow.HEIGHT, 5000);
            x.pump(0, FountainShow.CAPACITY, 1);
            x.command(1, 400);
            x.command(2, row[0]);
            x.tick(1);
            CHECK.due("flow beside " + row[0], x.spray(0, 8), row[1]);
            CHECK.due("height for the flow " + row[1], x.spray(0, 9), row[2]);
        }
    }

    /** "The greatest height of each nozzle so far is kept": the next one is one less, as high, one more. */
    private static void greatestHeightIsKept() {
        int[][] heightsAndGreatest = {{999, 1000}, {1000, 1000}, {1001, 1001}};
        for (int[] row : heightsAndGreatest) {
            FountainShow x = Shows.small(12);
            x.command(2048, 1000);
            x.tick(1);
            CHECK.due("first", x.spray(11, 11), 1000);
            x.nozzle(11, FountainShow.HEIGHT, row[0]);
            x.tick(1);
            CHECK.due("height", x.spray(11, 9), row[0]);
            CHECK.due("greatest behind " + row[0], x.spray(11, 11), row[1]);
            CHECK.due("not of another one", x.spray(10, 11), 0);
        }
    }

    /** A nozzle that is to be as high as its HEIGHT, in a wind that is too weak for a stage. */
    private static FountainShow blown(int height, int drift, int wind) {
        FountainShow x = one();
        x.set(FountainShow.FIRST, 300);
        x.set(FountainShow.SECOND, 300);
        x.nozzle(0, FountainShow.HEIGHT, height);
        x.nozzle(0, FountainShow.DRIFT, drift);
        x.wind(wind);
        x.command(1, 1000);
        return x;
    }

    /** "(its height) * m * DRIFT / 100000": one below, at and one above the next number, and with a factor of 0. */
    private static void driftRoundedDown() {
        int[][] rows = {{999, 1, 100, 0}, {1000, 1, 100, 1}, {1001, 1, 100, 1}, {1000, 1, 99, 0}, {1000, 1, 101, 1},
            {1999, 1, 100, 1}, {2000, 1, 100, 2}, {1000, 0, 100, 0}, {1000, 99, 100, 99}, {1000, 100, 100, 100},
            {1000, 100, 0, 0}, {1000, 100, 1, 1}, {1, 100, 299, 0}, {4999, 97, 53, 256}};
        for (int[] row : rows) {
            FountainShow x = blown(row[0], row[1], row[2]);
            x.tick(1);
            CHECK.due("height " + row[0] + ", DRIFT " + row[1] + ", wind " + row[2], x.spray(0, 10), row[3]);
        }
    }

    /** "(its height) * m * DRIFT / 100000": m lags behind the wind. */
    private static void driftInTheMeasuredWind() {
        FountainShow x = blown(1000, 100, 200);
        x.set(FountainShow.FILTER, 2);
        for (int drift : new int[] {100, 150, 175}) {
            x.tick(1);
            CHECK.due("drift in a rising wind", x.spray(0, 10), drift);
        }
        x.wind(0);
        x.tick(1);
        CHECK.due("drift in a falling wind", x.spray(0, 10), 87);
    }

    /** The greatest numbers of all: a wind of 300 is always one of the stage 2, in which the nozzle just closes. */
    private static void greatestDrift() {
        FountainShow x = blown(5000, 100, 299);
        x.tick(1);
        CHECK.due("in a wind of 299", x.spray(0, 10), 1495);
        x.nozzle(0, FountainShow.SPEED, 1);
        x.wind(300);
        x.tick(1);
        CHECK.due("height", x.spray(0, 9), 4990);
        CHECK.due("in a wind of 300", x.spray(0, 10), 1497);
    }

    /** "A pump is short in this tick if its demand is greater than its flow": one less, as much, one more. */
    private static void shortIfDemandIsGreater() {
        int[][] demandsAndCounts = {{999, 0}, {1000, 0}, {1001, 3}};
        for (int[] row : demandsAndCounts) {
            FountainShow x = demanding(row[0]);
            x.pump(0, FountainShow.CAPACITY, 1);
            x.tick(3);
            CHECK.due("short with " + row[0], x.pressure(0, 4), row[1]);
        }
    }

    /** "wet in this tick if the drift of some nozzle is greater than SPLASH": SPLASH is one less, as much, one more. */
    private static void wetIfDriftIsGreater() {
        int[][] splashesAndCounts = {{9, 3}, {10, 0}, {11, 0}};
        for (int[] row : splashesAndCounts) {
            FountainShow x = blown(1000, 10, 100);
            x.set(FountainShow.SPLASH, row[0]);
            x.tick(3);
            CHECK.due("drift", x.spray(0, 10), 10);
            CHECK.due("wet with " + row[0], x.state(7), row[1]);
        }
        FountainShow x = blown(1000, 1, 99);
        x.set(FountainShow.SPLASH, 0);
        x.tick(1);
        CHECK.due("dry with a drift of 0", x.state(7), 0);
        x.wind(100);
        x.tick(1);
        CHECK.due("wet with a drift of 1", x.state(7), 1);
    }

    /** "some nozzle": the first, the last, an inner one; all of them make one wet tick. */
    private static void wetByAnyNozzle() {
        for (int set : new int[] {0, 1, 2, 1024, 2048, 4095}) {
            FountainShow x = Shows.small(12);
            x.set(FountainShow.SPLASH, 6);
            x.wind(70);
            x.command(4095, 100);
            if (set > 0) {
                x.command(set, 1000);
            }
            x.tick(2);
            CHECK.due("wet by " + set, x.state(7), set > 0 ? 2 : 0);
        }
    }

    /** "Both are counted, for each pump": the first, the second, the third; one tick each. */
    private static void shortOfAnyPump() {
        for (int p = 0; p < 3; p++) {
            FountainShow x = Shows.small(3);
            for (int n = 0; n < 3; n++) {
                x.nozzle(n, FountainShow.PUMP, n);
            }
            x.pump(p, FountainShow.CAPACITY, 0);
            x.command(7, 1000);
            x.tick(1);
            x.command(7, 0);
            x.tick(1);
            for (int other = 0; other < 3; other++) {
                CHECK.due("short is " + p + ", asked " + other, x.pressure(other, 4), other == p ? 1 : 0);
            }
        }
    }

    /** rewind: "Returns the time that it was": 0, 1, 199999, 200000. */
    private static void rewindAtTheEndsOfTime() {
        for (int time : Edges.inside(0, 200000)) {
            FountainShow x = Shows.at(time);
            CHECK.due("rewind from " + time, x.rewind(), time);
            CHECK.due("the time", x.state(0), 0);
            CHECK.due("once more", x.rewind(), 0);
            CHECK.due("ticks are possible", x.tick(2000), 2000);
        }
    }

    /** "commands, openings, .., the filtered wind, the stage, the calm count and all counts are as initially". */
    private static void rewindMakesCountsInitial() {
        FountainShow x = Shows.busy();
        x.rewind();
        for (int what : new int[] {0, 4, 5, 6, 7}) {
            CHECK.due("state " + what, x.state(what), 0);
        }
        for (int n = 0; n < 5; n++) {
            for (int what = 6; what < 12; what++) {
                CHECK.due("spray " + n + " " + what, x.spray(n, what), 0);
            }
        }
        for (int p = 0; p < 3; p++) {
            for (int what = 2; what < 5; what++) {
                CHECK.due("pressure " + p + " " + what, x.pressure(p, what), 0);
            }
        }
        x.set(FountainShow.FILTER, 2);
        x.wind(2);
        x.tick(1);
        CHECK.due("F was not below 0", x.state(4), 1);
        x.rewind();
        x.set(FountainShow.FILTER, 5);
        x.wind(111);
        x.tick(18);
        // From F = 1 it would be 109.
        CHECK.due("F was not above 0", x.state(4), 108);
    }

    /** "and there were no ticks": for LAG 1 and 50, and for the demand of the latest tick. */
    private static void rewindLeavesNoTicks() {
        for (int lag : new int[] {1, 50}) {
            FountainShow x = one();
            x.command(1, 1000);
            x.tick(60);
            x.nozzle(0, FountainShow.LAG, lag);
            x.rewind();
            CHECK.due("no demand", x.pressure(0, 3), 0);
            x.command(1, 600);
            x.tick(lag);
            CHECK.due("nothing " + lag + " ticks ago", x.spray(0, 11), 0);
            x.tick(1);
            CHECK.due("the first " + lag + " ticks ago", x.spray(0, 7), 600);
        }
        FountainShow x = one();
        x.command(1, 1000);
        x.rewind();
        x.tick(1);
        CHECK.due("no command by hand is left", x.spray(0, 7), 0);
    }

    /** "Settings, the wind and cues stay": those that have passed come again, that of the time 0 too. */
    private static void rewindBringsCuesBack() {
        FountainShow x = one();
        x.cue(0, 1, 300);
        x.cue(1, 1, 400);
        x.wind(60);
        x.tick(10);
        CHECK.due("none is next", x.state(8), FountainShow.NONE);
        x.rewind();
        CHECK.due("the first is next", x.state(8), 0);
        x.tick(1);
        CHECK.due("the first", x.spray(0, 7), 300);
        CHECK.due("the wind", x.state(4), 60);
        x.tick(1);
        CHECK.due("the second", x.spray(0, 7), 400);
    }
}

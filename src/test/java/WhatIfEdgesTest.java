/** Each boundary that the promises 19 to 21 name: at it, just inside, just outside. */
public final class WhatIfEdgesTest {
    private static final int NONE = FountainShow.NONE;
    private static final int NO_SUCH = FountainShow.NO_SUCH;
    private static final int BAD_VALUE = FountainShow.BAD_VALUE;
    private static final Check CHECK = new Check();
    private static final Edges EDGES = new Edges(CHECK);

    public static void main(String[] args) {
        ticksAhead();
        ticksAheadAreMade();
        whatAhead();
        pumpsAhead();
        pumpDoesNotMatter();
        greatestDemandOfTheseTicks();
        shortInTheseTicks();
        firstShortTick();
        wetInTheseTicks();
        greatestHeightOfTheseTicks();
        nothingAhead();
        timeOfACopyIsNotLimited();
        nothingOfACopyStays();
        whichCueToDelay();
        mostDelay();
        ticksOfADelay();
        ticksOfADelayAreMade();
        leastDelay();
        greatestDelay();
        noDelay();
        delayByNothing();
        delayOfAPassedCue();
        delayUpToTheLastTime();
        delayAmongSixty();
        delayForAnyPump();
        ticksOfSafeCut();
        ticksOfSafeCutAreMade();
        greatestSafeCuts();
        leastSafeCuts();
        noSafeCut();
        safeCutInTheStages();
        safeCutInFallingStages();
        safeCutInRisingStages();
        safeCutFarFromTheStart();
        CHECK.end();
    }

    /** One nozzle with a demand of 10000, from the time on at which it is cued; its pump has too little for it. */
    private static FountainShow shortFrom(int time) {
        FountainShow x = Shows.quick(1);
        x.pump(0, FountainShow.CAPACITY, 9);
        x.cue(time, 1, 1000);
        return x;
    }

    /** ahead: "ticks: 1 to 1000". */
    private static void ticksAhead() {
        EDGES.refusedOutside("ticks", 1, 1000, BAD_VALUE, Shows::busy, (x, v) -> x.ahead(v, 0, 1));
        EDGES.takenInside("ticks", 1, 1000, () -> shortFrom(0), (x, v) -> x.ahead(v, 0, 1), (x, v) -> v);
    }

    /** "how many ticks are made in the copy": what the last one brings is seen, what comes behind it is not. */
    private static void ticksAheadAreMade() {
        for (int ticks : new int[] {1, 2, 999, 1000}) {
            CHECK.due("demand of the last of " + ticks, shortFrom(ticks - 1).ahead(ticks, 0, 0), 10000);
            CHECK.due("demand behind " + ticks, shortFrom(ticks).ahead(ticks, 0, 0), 0);
        }
    }

    /** "BAD_VALUE if .. what is not 0 to 4". */
    private static void whatAhead() {
        EDGES.refusedOutside("what", 0, 4, BAD_VALUE, Shows::busy, (x, v) -> x.ahead(1, 0, v));
        FountainShow x = shortFrom(2);
        x.set(FountainShow.SPLASH, 0);
        x.set(FountainShow.FILTER, 1);
        x.wind(70);
        int[] due = {10000, 3, 2, 3, 810};
        for (int what = 0; what < 5; what++) {
            CHECK.due("what " + what, x.ahead(5, 0, what), due[what]);
        }
    }

    /** "NO_SUCH if there is no such pump, for 0 to 2": the first, the last, those beside them. */
    private static void pumpsAhead() {
        for (int what = 0; what < 3; what++) {
            int asked = what;
            EDGES.refusedOutside("pump for " + what, 0, 2, NO_SUCH, Shows::busy, (x, v) -> x.ahead(1, v, asked));
        }
        int[][] due = {{0, 0, NONE}, {0, 0, NONE}, {10000, 5, 0}};
        for (int pump = 0; pump < 3; pump++) {
            FountainShow x = shortFrom(0);
            x.nozzle(0, FountainShow.PUMP, 2);
            x.pump(2, FountainShow.CAPACITY, 9);
            for (int what = 0; what < 3; what++) {
                CHECK.due("pump " + pump + " for " + what, x.ahead(5, pump, what), due[pump][what]);
            }
        }
    }

    /** "its number does not matter for 3 and 4". */
    private static void pumpDoesNotMatter() {
        for (int pump : new int[] {Integer.MIN_VALUE, -1, 0, 2, 3, Integer.MAX_VALUE}) {
            FountainShow x = shortFrom(0);
            CHECK.due("wet ticks for the pump " + pump, x.ahead(3, pump, 3), 0);
            CHECK.due("height for the pump " + pump, x.ahead(3, pump, 4), 810);
        }
    }

    /** "the greatest demand of the pump in these ticks": in the first, an inner, the last one; not before or behind. */
    private static void greatestDemandOfTheseTicks() {
        FountainShow x = Shows.quick(1);
        int[] commands = {900, 500, 300, 700, 200, 1000};
        for (int i = 0; i < commands.length; i++) {
            x.cue(i, 1, commands[i]);
        }
        x.tick(1);
        CHECK.due("the first of them", x.ahead(2, 0, 0), 5000);
        CHECK.due("the last of them", x.ahead(3, 0, 0), 7000);
        CHECK.due("an inner one", x.ahead(4, 0, 0), 7000);
        CHECK.due("the next one", x.ahead(5, 0, 0), 10000);
    }

    /** "the number of those in which it is short": 0, one, all; those before do not count. */
    private static void shortInTheseTicks() {
        FountainShow x = shortFrom(3);
        x.cue(6, 1, 0);
        int[][] ticksAndCounts = {{3, 0}, {4, 1}, {6, 3}, {7, 3}, {1000, 3}};
        for (int[] row : ticksAndCounts) {
            CHECK.due("in " + row[0], x.ahead(row[0], 0, 1), row[1]);
        }
        x.tick(5);
        CHECK.due("before", x.pressure(0, 4), 2);
        CHECK.due("only those to come", x.ahead(10, 0, 1), 1);
        x.tick(1);
        CHECK.due("none to come", x.ahead(10, 0, 1), 0);
    }

    /** "the first one in which it is short, counted from 0 (NONE if there is none)": the first, the last, behind it. */
    private static void firstShortTick() {
        CHECK.due("the first", shortFrom(0).ahead(1, 0, 2), 0);
        CHECK.due("the second", shortFrom(1).ahead(1000, 0, 2), 1);
        CHECK.due("the last but one", shortFrom(998).ahead(1000, 0, 2), 998);
        CHECK.due("the last", shortFrom(999).ahead(1000, 0, 2), 999);
        CHECK.due("behind it", shortFrom(1000).ahead(1000, 0, 2), NONE);
        FountainShow x = shortFrom(0);
        x.tick(3);
        CHECK.due("counted from the present", x.ahead(5, 0, 2), 0);
        x.pump(0, FountainShow.CAPACITY, 10);
        CHECK.due("demand and flow are the same", x.ahead(5, 0, 2), NONE);
    }

    /** "the number of those in which the show is wet": 0, one, all; those before do not count. */
    private static void wetInTheseTicks() {
        FountainShow x = Shows.small(1);
        x.set(FountainShow.SPLASH, 6);
        x.wind(70);
        x.cue(3, 1, 1000);
        x.cue(6, 1, 0);
        int[][] ticksAndCounts = {{3, 0}, {4, 1}, {6, 3}, {7, 3}, {1000, 3}};
        for (int[] row : ticksAndCounts) {
            CHECK.due("in " + row[0], x.ahead(row[0], 0, 3), row[1]);
        }
        x.tick(5);
        CHECK.due("only those to come", x.ahead(10, 0, 3), 1);
        x.set(FountainShow.SPLASH, 7);
        CHECK.due("not greater", x.ahead(10, 0, 3), 0);
    }

    /** "the greatest height of a nozzle in these ticks": of the first and the last nozzle; not before or behind. */
    private static void greatestHeightOfTheseTicks() {
        for (int set : new int[] {1, 2048}) {
            FountainShow x = Shows.small(12);
            x.cue(0, set, 1000);
            x.cue(1, set, 500);
            x.cue(2, set, 800);
            x.cue(3, set, 900);
            CHECK.due("of the first tick", x.ahead(3, 0, 4), 1000);
            x.tick(1);
            CHECK.due("not before", x.ahead(1, 0, 4), 250);
            CHECK.due("of the last tick", x.ahead(2, 0, 4), 640);
            CHECK.due("of the next one", x.ahead(3, 0, 4), 810);
        }
    }

    /** "in a copy, whose time is not limited": at 199999 and 200000, with a LAG. */
    private static void timeOfACopyIsNotLimited() {
        for (int time = 199999; time <= 200000; time++) {
            FountainShow x = Shows.at(time);
            x.nozzle(0, FountainShow.LAG, 50);
            x.nozzle(0, FountainShow.SPEED, 1000);
            x.pump(0, FountainShow.CAPACITY, 0);
            x.command(1, 1000);
            CHECK.due("not yet, from " + time, x.ahead(50, 0, 1), 0);
            CHECK.due("the first, from " + time, x.ahead(51, 0, 2), 50);
            CHECK.due("a thousand, from " + time, x.ahead(1000, 0, 1), 950);
            CHECK.due("the time stays", x.state(0), time);
            x.set(FountainShow.SPLASH, 0);
            x.cue(100000, 1, 5);
            CHECK.due("safeCut, from " + time, x.safeCut(100), 1000);
            CHECK.due("delay, from " + time, x.delay(0, 100, 50), 0);
            CHECK.due("delay of no use, from " + time, x.delay(0, 100, 51), NONE);
        }
    }

    /** Without a demand, and without a height, the greatest ones are 0. */
    private static void nothingAhead() {
        int[] due = {0, 0, NONE, 0, 0};
        for (int what = 0; what < 5; what++) {
            CHECK.due("nothing, what " + what, new FountainShow().ahead(1000, 2, what), due[what]);
        }
        FountainShow x = Shows.small(1);
        x.command(1, 32);
        CHECK.due("the least demand", x.ahead(1, 0, 0), 32);
        CHECK.due("the least height", x.ahead(1, 0, 4), 1);
        x.command(1, 31);
        CHECK.due("no height", x.ahead(1, 0, 4), 0);
    }

    /** "everything happens in a copy": the same twice, and nothing of it stays. */
    private static void nothingOfACopyStays() {
        FountainShow x = Shows.busy();
        FountainShow twin = Shows.busy();
        for (int what = 0; what < 5; what++) {
            x.ahead(1000, 0, what);
            x.delay(7, 100, 300);
            x.safeCut(100);
        }
        EDGES.same("what if", x, twin);
    }

    /** delay: "NO_SUCH if there is no such cue". */
    private static void whichCueToDelay() {
        EDGES.refusedOutside("cue", 0, 7, NO_SUCH, Shows::busy, (x, v) -> x.delay(v, 1, 1));
        EDGES.refused("without cues", NO_SUCH, FountainShow::new, x -> x.delay(0, 1, 1));
        FountainShow x = shortFrom(4);
        x.cue(9, 1, 0);
        CHECK.due("the first", x.delay(0, 1, 5), 1);
        CHECK.due("the last", x.delay(1, 1, 5), NONE);
    }

    /** delay: "most: 0 to 100": a delay of as much is found, one more is not. */
    private static void mostDelay() {
        EDGES.refusedOutside("most", 0, 100, BAD_VALUE, Shows::busy, (x, v) -> x.delay(7, v, 1));
        for (int most : Edges.inside(0, 100)) {
            CHECK.due("just " + most, shortFrom(0).delay(0, most, most == 0 ? 1 : most), most == 0 ? NONE : most);
            CHECK.due("one more than " + most, shortFrom(0).delay(0, most, most + 1), NONE);
            CHECK.due("none is needed, up to " + most, shortFrom(5).delay(0, most, 5), 0);
        }
    }

    /** delay: "ticks: 1 to 300". */
    private static void ticksOfADelay() {
        EDGES.refusedOutside("ticks", 1, 300, BAD_VALUE, Shows::busy, (x, v) -> x.delay(7, 1, v));
        EDGES.takenInside("ticks", 1, 300, () -> shortFrom(1000), (x, v) -> x.delay(0, 0, v), (x, v) -> 0);
    }

    /** "no pump is short in the next ticks": the last of them counts, the one behind it does not. */
    private static void ticksOfADelayAreMade() {
        for (int ticks : Edges.inside(1, 300)) {
            CHECK.due("in the last of " + ticks, shortFrom(ticks - 1).delay(0, 0, ticks), NONE);
            CHECK.due("one later than " + ticks, shortFrom(ticks - 1).delay(0, 1, ticks), 1);
            CHECK.due("behind " + ticks, shortFrom(ticks).delay(0, 1, ticks), 0);
        }
    }

    /** "the least delay": of those that help the first one, 0, 1 and 2; one less does not help. */
    private static void leastDelay() {
        for (int least = 0; least < 3; least++) {
            FountainShow x = Shows.quick(2);
            x.pump(0, FountainShow.CAPACITY, 10);
            x.command(2, 1000);
            x.cue(5, 1, 1000);
            x.cue(5 + least, 2, 0);
            x.cue(10, 1, 0);
            CHECK.due("least " + least, x.delay(0, 100, 20), least);
            CHECK.due("just enough", x.delay(0, least, 20), least);
            if (least > 0) {
                CHECK.due("one too few", x.delay(0, least - 1, 20), NONE);
            }
        }
    }

    /** A delay of 99 and of 100, and what would need 101. */
    private static void greatestDelay() {
        int[][] ticksAndDelays = {{104, 99}, {105, 100}, {106, NONE}};
        for (int[] row : ticksAndDelays) {
            CHECK.due("in " + row[0], shortFrom(5).delay(0, 100, row[0]), row[1]);
        }
    }

    /** "NONE if there is none": whatever the cue does, a pump is short. */
    private static void noDelay() {
        FountainShow x = shortFrom(0);
        x.cue(300, 1, 500);
        CHECK.due("another cue makes it short", x.delay(1, 100, 1), NONE);
        CHECK.due("demand and flow are the same", sameDemandAndFlow().delay(0, 0, 300), 0);
    }

    private static FountainShow sameDemandAndFlow() {
        FountainShow x = shortFrom(0);
        x.pump(0, FountainShow.CAPACITY, 10);
        return x;
    }

    /** "moved by the delay as by move(), also by 0, behind the others of its time". */
    private static void delayByNothing() {
        FountainShow x = shortFrom(5);
        x.cue(5, 1, 900);
        x.cue(7, 1, 800);
        CHECK.due("in its place it is not short", x.ahead(20, 0, 1), 0);
        CHECK.due("by 0, it comes behind the other one", x.delay(0, 0, 20), NONE);
        CHECK.due("by 1, it is short", x.delay(0, 1, 20), NONE);
        CHECK.due("by 2, it comes behind the one of 7", x.delay(0, 2, 20), NONE);
        CHECK.due("the last of its time stays", x.delay(1, 0, 20), 0);
        FountainShow y = shortFrom(5);
        y.cue(5, 1, 900);
        CHECK.due("behind another one by 0", y.delay(1, 0, 20), 0);
        y.move(0, 0);
        CHECK.due("the other one is last now", y.ahead(20, 0, 1), 15);
        CHECK.due("moved behind it by 0", y.delay(0, 0, 20), 0);
    }

    /** A passed cue has no effect where it is; moved to the present time it has. */
    private static void delayOfAPassedCue() {
        FountainShow x = Shows.at(5);
        x.nozzle(0, FountainShow.LAG, 0);
        x.nozzle(0, FountainShow.SPEED, 1000);
        x.pump(0, FountainShow.CAPACITY, 0);
        x.command(1, 1000);
        x.cue(3, 1, 0);
        CHECK.due("it would help at 5", x.delay(0, 100, 20), 2);
        CHECK.due("at 5, and no later", x.delay(0, 2, 20), 2);
        CHECK.due("not at 4", x.delay(0, 1, 20), NONE);
    }

    /** "(times above 100000 are none)": a delay to 100000 is one, to 100001 it is not. */
    private static void delayUpToTheLastTime() {
        FountainShow x = Shows.at(99990);
        x.nozzle(0, FountainShow.LAG, 0);
        x.pump(0, FountainShow.CAPACITY, 0);
        x.cue(99995, 1, 1000);
        CHECK.due("to 99999", x.delay(0, 100, 9), 4);
        CHECK.due("to 100000", x.delay(0, 100, 10), 5);
        CHECK.due("to 100001", x.delay(0, 100, 11), NONE);
        CHECK.due("to 100000 at the most", x.delay(0, 5, 10), 5);
        CHECK.due("to 99999 at the most", x.delay(0, 4, 10), NONE);
        x.move(0, 5);
        CHECK.due("from 100000, not in sight", x.delay(0, 100, 10), 0);
        CHECK.due("from 100000, in sight", x.delay(0, 100, 11), NONE);
    }

    /** The first and the last of sixty cues. */
    private static void delayAmongSixty() {
        FountainShow x = shortFrom(10);
        for (int i = 0; i < 59; i++) {
            x.cue(11, 1, 0);
        }
        CHECK.due("no 61st", x.delay(60, 0, 1), NO_SUCH);
        CHECK.due("the first, to the time of the others", x.delay(0, 100, 11), 1);
        CHECK.due("the first, behind the others", x.delay(0, 100, 12), 2);
        CHECK.due("the last", x.delay(59, 100, 10), 0);
        CHECK.due("the last, while the first makes it short", x.delay(59, 100, 11), NONE);
    }

    /** "no pump is short": the first, an inner, the last one. */
    private static void delayForAnyPump() {
        for (int pump = 0; pump < 3; pump++) {
            FountainShow x = shortFrom(5);
            x.nozzle(0, FountainShow.PUMP, pump);
            x.pump(pump, FountainShow.CAPACITY, 9);
            CHECK.due("pump " + pump, x.delay(0, 100, 10), 5);
        }
    }

    /** A nozzle in a wind of the stage 1: drift = height / 10, so that 1000 gives 100, 999 gives 99. */
    private static FountainShow wetFrom(int time) {
        FountainShow x = Shows.small(1);
        x.nozzle(0, FountainShow.DRIFT, 100);
        x.wind(100);
        x.cue(time, 1, 1000);
        return x;
    }

    /** safeCut: "ticks: 1 to 100". */
    private static void ticksOfSafeCut() {
        EDGES.refusedOutside("ticks", 1, 100, BAD_VALUE, Shows::busy, (x, v) -> x.safeCut(v));
        EDGES.takenInside("ticks", 1, 100, FountainShow::new, (x, v) -> x.safeCut(v), (x, v) -> 1000);
    }

    /** "wet in none of the next ticks": the last of them counts, the one behind it does not. */
    private static void ticksOfSafeCutAreMade() {
        for (int ticks : Edges.inside(1, 100)) {
            FountainShow x = wetFrom(ticks - 1);
            x.set(FountainShow.SPLASH, 99);
            CHECK.due("in the last of " + ticks, x.safeCut(ticks), 999);
            FountainShow y = wetFrom(ticks);
            y.set(FountainShow.SPLASH, 99);
            CHECK.due("behind " + ticks, y.safeCut(ticks), 1000);
        }
    }

    /** CUT 1000, 999 and 998. */
    private static void greatestSafeCuts() {
        // drifts 100, 99, 99 for the openings 1000, 999, 998 with HEIGHT 1000, and 500, 499, 498 with HEIGHT 5000
        int[][] heightsSplashesCuts = {{1000, 100, 1000}, {1000, 99, 999}, {5000, 500, 1000}, {5000, 499, 999}, {5000, 498, 998}};
        for (int[] row : heightsSplashesCuts) {
            FountainShow x = wetFrom(0);
            x.nozzle(0, FountainShow.HEIGHT, row[0]);
            x.set(FountainShow.SPLASH, row[1]);
            CHECK.due("HEIGHT " + row[0] + ", SPLASH " + row[1], x.safeCut(10), row[2]);
        }
    }

    /** CUT 0 and 1: the nozzle opens in the tick in which the stage ends, by its SPEED from its CUT. */
    private static void leastSafeCuts() {
        int[][] speedsAndCuts = {{997, 2}, {998, 1}, {999, 0}, {1000, NONE}};
        for (int[] row : speedsAndCuts) {
            FountainShow x = Shows.small(1);
            x.nozzle(0, FountainShow.HEIGHT, 5000);
            x.nozzle(0, FountainShow.DRIFT, 100);
            x.nozzle(0, FountainShow.SPEED, row[0]);
            x.set(FountainShow.HOLD, 2);
            // 5000 * 60 * 100 / 100000 = 300 at 1000, 299 at 999
            x.set(FountainShow.SPLASH, 299);
            x.wind(80);
            x.tick(1);
            x.wind(60);
            x.command(1, 1000);
            CHECK.due("SPEED " + row[0], x.safeCut(2), row[1]);
        }
    }

    /** "NONE if there is none": the stage 0 is not cut, and a nozzle does not close at once. */
    private static void noSafeCut() {
        FountainShow x = wetFrom(0);
        x.set(FountainShow.SPLASH, 0);
        x.set(FountainShow.FIRST, 100);
        CHECK.due("at FIRST", x.safeCut(10), 99);
        x.set(FountainShow.FIRST, 101);
        CHECK.due("below FIRST", x.safeCut(10), NONE);
        FountainShow y = wetFrom(0);
        y.set(FountainShow.SPLASH, 99);
        y.set(FountainShow.CUT, 1000);
        y.tick(1);
        CHECK.due("it just closes", y.safeCut(1), 999);
        y.nozzle(0, FountainShow.HEIGHT, 2000);
        y.nozzle(0, FountainShow.SPEED, 1);
        CHECK.due("it does not close", y.safeCut(1), NONE);
    }

    /** In the stages 0 and 2 the CUT does not matter: the greatest is the answer, or none. */
    private static void safeCutInTheStages() {
        FountainShow x = wetFrom(0);
        x.wind(79);
        x.set(FountainShow.SPLASH, 79);
        CHECK.due("stage 0, dry", x.safeCut(10), 1000);
        x.set(FountainShow.SPLASH, 78);
        CHECK.due("stage 0, wet", x.safeCut(10), NONE);
        x.wind(150);
        x.set(FountainShow.SPLASH, 0);
        CHECK.due("stage 2, closed", x.safeCut(10), 1000);
        x.wind(79);
        x.tick(1);
        x.nozzle(0, FountainShow.SPEED, 1);
        x.wind(150);
        CHECK.due("stage 2, closing", x.safeCut(10), NONE);
    }

    /** The stages of the next ticks count, not that of the present: from 2 to 1, and from 1 to 0. */
    private static void safeCutInFallingStages() {
        FountainShow x = wetFrom(0);
        x.set(FountainShow.HOLD, 3);
        x.set(FountainShow.SPLASH, 29);
        x.wind(150);
        x.tick(1);
        x.wind(120);
        CHECK.due("stage 2", x.state(5), 2);
        CHECK.due("still 2", x.safeCut(2), 1000);
        // A height of 250 drifts by 30: v = 500.
        CHECK.due("then 1", x.safeCut(3), 499);
        x.set(FountainShow.CUT, 499);
        x.tick(3);
        x.wind(60);
        CHECK.due("stage 1", x.state(5), 1);
        // A height of 500 drifts by 30: v = 708 (501.264).
        CHECK.due("still 1", x.safeCut(2), 707);
        CHECK.due("then 0", x.safeCut(3), NONE);
    }

    /** From 0 to 1, and from 1 to 2: the measured wind is 79, 118, 138, 148 and 153. */
    private static void safeCutInRisingStages() {
        FountainShow x = wetFrom(1);
        x.set(FountainShow.FILTER, 2);
        x.set(FountainShow.SPLASH, 29);
        x.wind(158);
        // The least heights that drift by 30: 255 (v = 505), 218 (v = 467), 203 (v = 451), none in the stage 2.
        int[] cuts = {1000, 504, 466, 450, 450, 450};
        for (int i = 0; i < cuts.length; i++) {
            CHECK.due("in " + (i + 1), x.safeCut(i + 1), cuts[i]);
        }
    }

    /** What was wet does not count, and the present CUT neither. */
    private static void safeCutFarFromTheStart() {
        FountainShow x = wetFrom(0);
        x.set(FountainShow.SPLASH, 99);
        for (int cut : Edges.inside(0, 1000)) {
            x.set(FountainShow.CUT, cut);
            x.tick(1);
            CHECK.due("CUT " + cut, x.safeCut(10), 999);
        }
        CHECK.due("it was wet", x.state(7), 1);
    }
}

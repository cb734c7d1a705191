/** Each boundary that the second step of a tick and the stages name: at it, just inside, just outside. */
public final class WindEdgesTest {
    private static final Check CHECK = new Check();

    public static void main(String[] args) {
        measuredWindRoundedDown();
        leastAndGreatestFilter();
        filterRoundedDown();
        stagesFollowTheMeasuredWind();
        firstIsAtLeast();
        secondIsAtLeast();
        secondBeforeFirst();
        leastFirst();
        leastSecond();
        greatestFirst();
        greatestSecond();
        firstCountsInTheStageZero();
        calmInTheStageOne();
        calmInTheStageTwo();
        calmBelowZeroIsNever();
        noCalmInTheStageZero();
        holdIsAtLeast();
        leastHold();
        greatestHold();
        holdBelowTheCalmCount();
        stageDecreasesByOne();
        interruptedCalm();
        atMostCutInTheStageOne();
        leastAndGreatestCut();
        nothingInTheStageTwo();
        cutInTheTickOfTheStage();
        CHECK.end();
    }

    /** The wind unfiltered: the measured wind is that of the tick. */
    private static FountainShow unfiltered(int first, int second, int hold) {
        FountainShow x = Shows.small(1);
        x.set(FountainShow.FIRST, first);
        x.set(FountainShow.SECOND, second);
        x.set(FountainShow.HOLD, hold);
        return x;
    }

    private static void blow(FountainShow x, int wind, int stage, int calm) {
        x.wind(wind);
        x.tick(1);
        CHECK.due("stage in a wind of " + wind, x.state(5), stage);
        CHECK.due("calm count in a wind of " + wind, x.state(6), calm);
    }

    /** "The measured wind is F / 1024": F = 1023 and F = 1024. */
    private static void measuredWindRoundedDown() {
        FountainShow x = new FountainShow();
        x.set(FountainShow.FILTER, 2);
        x.wind(1);
        // F = 512, 768, .., 1023; the half of 1 that is left is 0.
        x.tick(30);
        CHECK.due("F = 1023", x.state(4), 0);
        x.set(FountainShow.FILTER, 1);
        x.tick(1);
        CHECK.due("F = 1024", x.state(4), 1);
    }

    /** FILTER 1, 2, 63 and 64. */
    private static void leastAndGreatestFilter() {
        int[][] filtersAndWinds = {{1, 300, 300, 300}, {2, 150, 225, 262}, {63, 4, 9, 14}, {64, 4, 9, 13}};
        for (int[] row : filtersAndWinds) {
            FountainShow x = new FountainShow();
            x.set(FountainShow.FILTER, row[0]);
            x.wind(300);
            for (int i = 1; i < 4; i++) {
                x.tick(1);
                CHECK.due("FILTER " + row[0] + ", tick " + i, x.state(4), row[i]);
            }
        }
    }

    /** "(1024 * wind - F) / FILTER", rounded down when the wind falls. */
    private static void filterRoundedDown() {
        FountainShow x = new FountainShow();
        x.set(FountainShow.FILTER, 1);
        x.wind(2);
        x.tick(1);
        x.set(FountainShow.FILTER, 12);
        x.wind(0);
        x.tick(7);
        CHECK.due("F = 1111", x.state(4), 1);
        x.tick(1);
        // Rounded toward 0, it would be 1024.
        CHECK.due("F = 1018", x.state(4), 0);
    }

    /** "With m as the measured wind": not the wind itself, which is beyond FIRST and SECOND, and at 0, before it. */
    private static void stagesFollowTheMeasuredWind() {
        FountainShow x = unfiltered(80, 150, 1);
        x.set(FountainShow.FILTER, 2);
        // m = 79, 118, 138, 148, 153; then 76
        blow(x, 158, 0, 0);
        blow(x, 158, 1, 0);
        blow(x, 158, 1, 0);
        blow(x, 158, 1, 0);
        blow(x, 158, 2, 0);
        x.set(FountainShow.SECOND, 86);
        blow(x, 0, 2, 0);
    }

    /** "if m is at least FIRST and the stage is 0". */
    private static void firstIsAtLeast() {
        blow(unfiltered(80, 150, 3), 79, 0, 0);
        blow(unfiltered(80, 150, 3), 80, 1, 0);
        blow(unfiltered(80, 150, 3), 81, 1, 0);
    }

    /** "if m is at least SECOND". */
    private static void secondIsAtLeast() {
        blow(unfiltered(80, 150, 3), 149, 1, 0);
        blow(unfiltered(80, 150, 3), 150, 2, 0);
        blow(unfiltered(80, 150, 3), 151, 2, 0);
        FountainShow x = unfiltered(80, 150, 3);
        blow(x, 100, 1, 0);
        blow(x, 149, 1, 0);
        blow(x, 150, 2, 0);
        blow(x, 150, 2, 0);
    }

    /** SECOND is looked at first: it is less than FIRST, the same, greater. */
    private static void secondBeforeFirst() {
        blow(unfiltered(100, 99, 3), 99, 2, 0);
        blow(unfiltered(100, 100, 3), 100, 2, 0);
        blow(unfiltered(100, 101, 3), 100, 1, 0);
    }

    /** FIRST 0 and 1: without wind. */
    private static void leastFirst() {
        blow(unfiltered(0, 150, 3), 0, 1, 0);
        blow(unfiltered(1, 150, 3), 0, 0, 0);
        blow(unfiltered(1, 150, 3), 1, 1, 0);
    }

    /** SECOND 0 and 1: without wind. */
    private static void leastSecond() {
        blow(unfiltered(80, 0, 3), 0, 2, 0);
        blow(unfiltered(80, 1, 3), 0, 0, 0);
        blow(unfiltered(80, 1, 3), 1, 2, 0);
    }

    /** FIRST 299 and 300. */
    private static void greatestFirst() {
        blow(unfiltered(299, 300, 3), 298, 0, 0);
        blow(unfiltered(299, 300, 3), 299, 1, 0);
        blow(unfiltered(300, 300, 3), 299, 0, 0);
    }

    /** SECOND 299 and 300. */
    private static void greatestSecond() {
        blow(unfiltered(80, 299, 3), 299, 2, 0);
        blow(unfiltered(80, 300, 3), 299, 1, 0);
        blow(unfiltered(80, 300, 3), 300, 2, 0);
    }

    /** "at least FIRST and the stage is 0": in the stage 2 it is calm below SECOND - 10, at least FIRST or not. */
    private static void firstCountsInTheStageZero() {
        FountainShow x = unfiltered(80, 150, 2);
        blow(x, 150, 2, 0);
        blow(x, 80, 2, 1);
        blow(x, 139, 1, 0);
        blow(x, 79, 1, 0);
        blow(x, 80, 1, 0);
    }

    /** "or less than FIRST - 10 for the stage 1". */
    private static void calmInTheStageOne() {
        int[][] windsAndCounts = {{71, 0}, {70, 0}, {69, 1}, {0, 1}};
        for (int[] row : windsAndCounts) {
            FountainShow x = unfiltered(80, 150, 3);
            blow(x, 80, 1, 0);
            blow(x, row[0], 1, row[1]);
        }
    }

    /** "less than SECOND - 10 for the stage 2". */
    private static void calmInTheStageTwo() {
        int[][] windsAndCounts = {{141, 0}, {140, 0}, {139, 1}, {69, 1}};
        for (int[] row : windsAndCounts) {
            FountainShow x = unfiltered(80, 150, 3);
            blow(x, 150, 2, 0);
            blow(x, row[0], 2, row[1]);
        }
    }

    /** FIRST - 10 and SECOND - 10 are -1, 0 and 1: only less than 1 can be. */
    private static void calmBelowZeroIsNever() {
        int[][] boundsAndCounts = {{9, 0}, {10, 0}, {11, 1}};
        for (int[] row : boundsAndCounts) {
            FountainShow x = unfiltered(row[0], 150, 3);
            blow(x, row[0], 1, 0);
            blow(x, 0, 1, row[1]);
            FountainShow y = unfiltered(150, row[0], 3);
            blow(y, row[0], 2, 0);
            blow(y, 0, 2, row[1]);
        }
    }

    /** "if the stage is above 0": in the stage 0 nothing is counted; in the stage 1 it is. */
    private static void noCalmInTheStageZero() {
        FountainShow x = unfiltered(80, 150, 2);
        blow(x, 0, 0, 0);
        blow(x, 69, 0, 0);
        blow(x, 80, 1, 0);
        blow(x, 69, 1, 1);
        blow(x, 69, 0, 0);
        blow(x, 69, 0, 0);
    }

    /** "and if it is at least HOLD then": one below, at it. */
    private static void holdIsAtLeast() {
        for (int stage = 1; stage < 3; stage++) {
            FountainShow x = unfiltered(80, 150, 3);
            blow(x, stage == 1 ? 80 : 150, stage, 0);
            blow(x, 60, stage, 1);
            blow(x, 60, stage, 2);
            blow(x, 60, stage - 1, 0);
        }
    }

    /** HOLD 0, 1 and 2. */
    private static void leastHold() {
        int[][] holdsStagesCounts = {{0, 0, 0}, {1, 0, 0}, {2, 1, 1}};
        for (int[] row : holdsStagesCounts) {
            FountainShow x = unfiltered(80, 150, row[0]);
            blow(x, 80, 1, 0);
            blow(x, 60, row[1], row[2]);
        }
    }

    /** HOLD 599 and 600. */
    private static void greatestHold() {
        for (int hold = 599; hold <= 600; hold++) {
            FountainShow x = unfiltered(80, 150, hold);
            blow(x, 80, 1, 0);
            x.wind(0);
            x.tick(hold - 2);
            blow(x, 0, 1, hold - 1);
            blow(x, 0, 0, 0);
        }
    }

    /** HOLD is changed while it is calm: to one above the count of the tick, to it, to one below it, to 0. */
    private static void holdBelowTheCalmCount() {
        int[][] holdsStagesCounts = {{7, 1, 6}, {6, 0, 0}, {5, 0, 0}, {0, 0, 0}};
        for (int[] row : holdsStagesCounts) {
            FountainShow x = unfiltered(80, 150, 30);
            blow(x, 80, 1, 0);
            x.wind(0);
            x.tick(4);
            blow(x, 0, 1, 5);
            x.set(FountainShow.HOLD, row[0]);
            CHECK.due("the stage stays until a tick", x.state(5), 1);
            blow(x, 0, row[1], row[2]);
        }
    }

    /** "the stage decreases by 1 and the calm count becomes 0": from 2 to 1, from 1 to 0, and never below. */
    private static void stageDecreasesByOne() {
        FountainShow x = unfiltered(80, 150, 0);
        blow(x, 300, 2, 0);
        blow(x, 0, 1, 0);
        blow(x, 0, 0, 0);
        blow(x, 0, 0, 0);
    }

    /** "otherwise the calm count becomes 0": at FIRST - 10, and above FIRST. */
    private static void interruptedCalm() {
        for (int wind : new int[] {70, 79, 80, 149}) {
            FountainShow x = unfiltered(80, 150, 3);
            blow(x, 80, 1, 0);
            blow(x, 69, 1, 1);
            blow(x, 69, 1, 2);
            blow(x, wind, 1, 0);
            blow(x, 69, 1, 1);
        }
    }

    private static FountainShow inStage(int stage, int cut, int command) {
        FountainShow x = unfiltered(80, 150, 3);
        x.set(FountainShow.CUT, cut);
        x.wind(stage == 0 ? 79 : stage == 1 ? 149 : 150);
        x.command(1, command);
        x.tick(1);
        CHECK.due("stage", x.state(5), stage);
        return x;
    }

    /** "in the stage 1 it is at most CUT": the command is one less, as much, one more. */
    private static void atMostCutInTheStageOne() {
        int[][] commandsAndOpenings = {{499, 499}, {500, 500}, {501, 500}, {1000, 500}};
        for (int[] row : commandsAndOpenings) {
            CHECK.due("stage 0, command " + row[0], inStage(0, 500, row[0]).spray(0, 7), row[0]);
            CHECK.due("stage 1, command " + row[0], inStage(1, 500, row[0]).spray(0, 7), row[1]);
            CHECK.due("the command stays", inStage(1, 500, row[0]).spray(0, 6), row[0]);
        }
    }

    /** CUT 0, 1, 999 and 1000. */
    private static void leastAndGreatestCut() {
        for (int cut : Edges.inside(0, 1000)) {
            CHECK.due("CUT " + cut, inStage(1, cut, 1000).spray(0, 7), cut);
        }
    }

    /** "in the stage 2 it is 0", whatever CUT is. */
    private static void nothingInTheStageTwo() {
        CHECK.due("CUT 1000, command 1000", inStage(2, 1000, 1000).spray(0, 7), 0);
        CHECK.due("CUT 1000, command 1", inStage(2, 1000, 1).spray(0, 7), 0);
        CHECK.due("CUT 0, command 1000", inStage(2, 0, 1000).spray(0, 7), 0);
    }

    /** The stage of the tick itself counts, not that of LAG ticks ago. */
    private static void cutInTheTickOfTheStage() {
        FountainShow x = unfiltered(80, 150, 1);
        x.nozzle(0, FountainShow.LAG, 2);
        x.command(1, 1000);
        blow(x, 80, 1, 0);
        x.tick(1);
        CHECK.due("none yet", x.spray(0, 7), 0);
        x.tick(1);
        CHECK.due("cut", x.spray(0, 7), 500);
        blow(x, 69, 0, 0);
        CHECK.due("no more", x.spray(0, 7), 1000);
        blow(x, 80, 1, 0);
        CHECK.due("cut at once", x.spray(0, 7), 500);
        blow(x, 150, 2, 0);
        CHECK.due("closed at once", x.spray(0, 7), 0);
    }
}

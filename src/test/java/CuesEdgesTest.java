/** Each boundary that "Cues" and the promises 7 to 10 name: at it, just inside, just outside. */
public final class CuesEdgesTest {
    private static final int NO_SUCH = FountainShow.NO_SUCH;
    private static final int BAD_VALUE = FountainShow.BAD_VALUE;
    private static final int TOO_MANY = FountainShow.TOO_MANY;
    private static final Check CHECK = new Check();
    private static final Edges EDGES = new Edges(CHECK);

    public static void main(String[] args) {
        upToSixtyCues();
        upToSixtyCuesFromTexts();
        timeOfACue();
        setOfACue();
        valueOfACue();
        orderedByTimes();
        sameTimeInTheOrderAdded();
        removeAtTheEnds();
        removeTheOnlyOne();
        removeFromSixty();
        moveAtTheEnds();
        movedTimeIsNotBelowZero();
        movedTimeIsNotAboveAHundredThousand();
        moveByNothing();
        moveBehindAllOthersOfItsTime();
        moveTheOnlyOne();
        moveAmongSixty();
        partOfWhat();
        partOfWhichCue();
        CHECK.end();
    }

    private static FountainShow three() {
        return Shows.withCues(3);
    }

    private static FountainShow oneAt(int time) {
        FountainShow x = new FountainShow();
        x.cue(time, 7, 9);
        return x;
    }

    /** The values of the cues, in their order. */
    private static void order(String what, FountainShow x, int... values) {
        CHECK.due(what + ": number of cues", x.state(2), values.length);
        for (int i = 0; i < values.length; i++) {
            CHECK.due(what + ": cue " + i, x.part(i, 2), values[i]);
        }
        CHECK.due(what + ": no more", x.part(values.length, 2), NO_SUCH);
    }

    /** "There are up to 60 cues", "TOO_MANY if there are 60 cues". */
    private static void upToSixtyCues() {
        FountainShow x = Shows.withCues(58);
        CHECK.due("the 59th", x.cue(100000, 1, 5), 58);
        CHECK.due("the 60th", x.cue(100000, 1, 6), 59);
        CHECK.due("the 61st, at the end", x.cue(100000, 1, 7), TOO_MANY);
        CHECK.due("the 61st, at the front", x.cue(0, 1, 7), TOO_MANY);
        CHECK.due("there are 60", x.state(2), 60);
        CHECK.due("the last", x.part(59, 2), 6);
        CHECK.due("the first", x.part(0, 2), 0);
        FountainShow y = Shows.withCues(59);
        CHECK.due("the 60th, at the front", y.cue(0, 1, 8), 0);
        CHECK.due("behind it", y.part(1, 2), 0);
        CHECK.due("the last then", y.part(59, 2), 58);
        CHECK.due("remove one", y.remove(59), 59);
        CHECK.due("there is room again", y.cue(100000, 1, 9), 59);
        CHECK.due("and no more", y.cue(100000, 1, 9), TOO_MANY);
    }

    /** "There are up to 60 cues": a text fills the last places too. */
    private static void upToSixtyCuesFromTexts() {
        FountainShow x = Shows.withCues(58);
        Shows.write(x, "0:a=7,9999:l=8");
        CHECK.due("the 59th and the 60th", x.read(0), 2);
        CHECK.due("the first", x.part(0, 2), 7);
        CHECK.due("the last", x.part(59, 2), 8);
        CHECK.due("no more", x.cue(0, 1, 1), TOO_MANY);
    }

    /** "a time (0 to 100000)". */
    private static void timeOfACue() {
        EDGES.refusedOutside("time", 0, 100000, BAD_VALUE, Shows::busy, (x, v) -> x.cue(v, 1, 5));
        for (int time : Edges.inside(0, 100000)) {
            FountainShow x = new FountainShow();
            CHECK.due("cue at " + time, x.cue(time, 1, 5), 0);
            CHECK.due("its time " + time, x.part(0, 0), time);
        }
    }

    /** "a set of nozzles (1 to 4095)", of nozzles that do not exist too. */
    private static void setOfACue() {
        EDGES.refusedOutside("set", 1, 4095, BAD_VALUE, Shows::busy, (x, v) -> x.cue(5, v, 5));
        for (int set : new int[] {1, 2, 15, 16, 2047, 2048, 4094, 4095}) {
            FountainShow x = new FountainShow();
            CHECK.due("cue for " + set, x.cue(5, set, 5), 0);
            CHECK.due("its set " + set, x.part(0, 1), set);
        }
    }

    /** "and a value (0 to 1000)". */
    private static void valueOfACue() {
        EDGES.refusedOutside("value", 0, 1000, BAD_VALUE, Shows::busy, (x, v) -> x.cue(5, 1, v));
        for (int value : Edges.inside(0, 1000)) {
            FountainShow x = new FountainShow();
            CHECK.due("cue with " + value, x.cue(5, 1, value), 0);
            CHECK.due("its value " + value, x.part(0, 2), value);
        }
    }

    /** "They are ordered by their times .. and numbered so": one before, at and behind the times that there are. */
    private static void orderedByTimes() {
        int[][] timesAndNumbers = {{9, 0}, {10, 1}, {11, 2}, {12, 3}, {13, 3}, {0, 0}, {100000, 3}};
        for (int[] row : timesAndNumbers) {
            FountainShow x = three();
            CHECK.due("number at " + row[0], x.cue(row[0], 2, 77), row[1]);
            CHECK.due("it stands there", x.part(row[1], 2), 77);
            for (int i = 0; i < 3; i++) {
                CHECK.due("behind " + row[0] + ", cue " + i, x.part(i < row[1] ? i : i + 1, 2), i);
            }
        }
    }

    /** "those of the same time in the order in which they were added": at the least and the greatest time too. */
    private static void sameTimeInTheOrderAdded() {
        for (int time : new int[] {0, 1, 99999, 100000}) {
            FountainShow x = new FountainShow();
            for (int i = 0; i < 4; i++) {
                CHECK.due("at " + time + ", number " + i, x.cue(time, 1, 3 - i), i);
            }
            order("at " + time, x, 3, 2, 1, 0);
        }
    }

    /** "Returns the number of cues that are left; NO_SUCH if there is no such cue": first, inner and last ones. */
    private static void removeAtTheEnds() {
        EDGES.refusedOutside("remove", 0, 2, NO_SUCH, CuesEdgesTest::three, (x, v) -> x.remove(v));
        int[][] left = {{1, 2}, {0, 2}, {0, 1}};
        for (int cue = 0; cue < 3; cue++) {
            FountainShow x = three();
            CHECK.due("remove " + cue, x.remove(cue), 2);
            order("without " + cue, x, left[cue]);
        }
    }

    /** As before, with one cue and with none. */
    private static void removeTheOnlyOne() {
        FountainShow x = oneAt(5);
        CHECK.due("no second", x.remove(1), NO_SUCH);
        CHECK.due("remove the only one", x.remove(0), 0);
        CHECK.due("there is none", x.remove(0), NO_SUCH);
        CHECK.due("none below", x.remove(-1), NO_SUCH);
        order("none", x);
        CHECK.due("a new one", x.cue(5, 1, 1), 0);
    }

    /** As before, with 60 cues. */
    private static void removeFromSixty() {
        for (int cue : Edges.inside(0, 59)) {
            FountainShow x = Shows.withCues(60);
            CHECK.due("no 61st", x.remove(60), NO_SUCH);
            CHECK.due("remove " + cue + " of 60", x.remove(cue), 59);
            for (int i = 0; i < 59; i++) {
                CHECK.due("left is " + i, x.part(i, 2), i < cue ? i : i + 1);
            }
            CHECK.due("not more", x.part(59, 2), NO_SUCH);
        }
    }

    /** "by: .. -100000 to 100000", "BAD_VALUE if by is out of range", "NO_SUCH if there is no such cue". */
    private static void moveAtTheEnds() {
        EDGES.refusedOutside("by", -100000, 100000, BAD_VALUE, Shows::busy, (x, v) -> x.move(0, v));
        EDGES.refusedOutside("cue", 0, 2, NO_SUCH, CuesEdgesTest::three, (x, v) -> x.move(v, 0));
        int[][] startsAndMoves = {{0, 100000}, {0, 99999}, {1, 99999}, {100000, -100000}, {100000, -99999}, {99999, -99999}};
        for (int[] row : startsAndMoves) {
            FountainShow x = oneAt(row[0]);
            CHECK.due("from " + row[0] + " by " + row[1], x.move(0, row[1]), 0);
            CHECK.due("its time", x.part(0, 0), row[0] + row[1]);
        }
        CHECK.due("by 100001 from 0", oneAt(0).move(0, 100001), BAD_VALUE);
        CHECK.due("by -100001 from 100000", oneAt(100000).move(0, -100001), BAD_VALUE);
    }

    /** "BAD_VALUE if .. its time would be out of range": below 0. */
    private static void movedTimeIsNotBelowZero() {
        EDGES.refused("to -1", BAD_VALUE, () -> oneAt(5), x -> x.move(0, -6));
        EDGES.refused("from 0 to -1", BAD_VALUE, () -> oneAt(0), x -> x.move(0, -1));
        EDGES.refused("to -99999", BAD_VALUE, () -> oneAt(1), x -> x.move(0, -100000));
        FountainShow x = oneAt(5);
        CHECK.due("to 1", x.move(0, -4), 0);
        CHECK.due("is at 1", x.part(0, 0), 1);
        CHECK.due("to 0", x.move(0, -1), 0);
        CHECK.due("is at 0", x.part(0, 0), 0);
    }

    /** "BAD_VALUE if .. its time would be out of range": above 100000. */
    private static void movedTimeIsNotAboveAHundredThousand() {
        EDGES.refused("to 100001", BAD_VALUE, () -> oneAt(99995), x -> x.move(0, 6));
        EDGES.refused("from 100000 to 100001", BAD_VALUE, () -> oneAt(100000), x -> x.move(0, 1));
        EDGES.refused("to 199999", BAD_VALUE, () -> oneAt(99999), x -> x.move(0, 100000));
        FountainShow x = oneAt(99995);
        CHECK.due("to 99999", x.move(0, 4), 0);
        CHECK.due("is at 99999", x.part(0, 0), 99999);
        CHECK.due("to 100000", x.move(0, 1), 0);
        CHECK.due("is at 100000", x.part(0, 0), 100000);
    }

    /** By 0 and by 1 either way: a cue moved by 0 comes behind the others of its time too. */
    private static void moveByNothing() {
        int[][] movesAndNumbers = {{-1, 0}, {0, 2}, {1, 3}};
        for (int[] row : movesAndNumbers) {
            FountainShow x = new FountainShow();
            for (int i = 0; i < 3; i++) {
                x.cue(10, 1, i);
            }
            x.cue(11, 1, 3);
            CHECK.due("by " + row[0], x.move(0, row[0]), row[1]);
            CHECK.due("it stands there", x.part(row[1], 2), 0);
            CHECK.due("its time", x.part(row[1], 0), 10 + row[0]);
        }
        FountainShow y = three();
        CHECK.due("alone at its time, by 0", y.move(1, 0), 1);
        order("alone", y, 0, 1, 2);
    }

    /** "where it comes behind all other cues of this time", and before the next time: forward and backward. */
    private static void moveBehindAllOthersOfItsTime() {
        FountainShow x = new FountainShow();
        int[] times = {5, 10, 10, 11, 15};
        for (int i = 0; i < times.length; i++) {
            x.cue(times[i], 1, i);
        }
        CHECK.due("from before", x.move(0, 5), 2);
        order("from before", x, 1, 2, 0, 3, 4);
        CHECK.due("from behind", x.move(4, -5), 3);
        order("from behind", x, 1, 2, 0, 4, 3);
        CHECK.due("to the end", x.move(0, 1), 4);
        order("to the end", x, 2, 0, 4, 3, 1);
    }

    private static void moveTheOnlyOne() {
        FountainShow x = oneAt(5);
        CHECK.due("no second", x.move(1, 0), NO_SUCH);
        CHECK.due("by 0", x.move(0, 0), 0);
        CHECK.due("by 7", x.move(0, 7), 0);
        CHECK.due("its time", x.part(0, 0), 12);
        CHECK.due("its set", x.part(0, 1), 7);
        CHECK.due("its value", x.part(0, 2), 9);
        CHECK.due("none in a new show", new FountainShow().move(0, 0), NO_SUCH);
    }

    /** The full list loses none of its cues. */
    private static void moveAmongSixty() {
        FountainShow x = Shows.withCues(60);
        CHECK.due("the first to the end", x.move(0, 99990), 59);
        CHECK.due("no 61st", x.move(60, 0), NO_SUCH);
        for (int i = 0; i < 60; i++) {
            CHECK.due("moved up: " + i, x.part(i, 2), i < 59 ? i + 1 : 0);
        }
        CHECK.due("the last to the front", x.move(59, -100000), 0);
        for (int i = 0; i < 60; i++) {
            CHECK.due("moved back: " + i, x.part(i, 2), i);
        }
        CHECK.due("still full", x.cue(0, 1, 1), TOO_MANY);
    }

    /** "what: 0 for its time, 1 for its set, 2 for its value", "BAD_VALUE if what is not 0 to 2". */
    private static void partOfWhat() {
        EDGES.refusedOutside("what", 0, 2, BAD_VALUE, CuesEdgesTest::three, (x, v) -> x.part(2, v));
        FountainShow x = oneAt(5);
        CHECK.due("time", x.part(0, 0), 5);
        CHECK.due("set", x.part(0, 1), 7);
        CHECK.due("value", x.part(0, 2), 9);
    }

    /** "NO_SUCH if there is no such cue": of none, of one, of 60. */
    private static void partOfWhichCue() {
        CHECK.due("of none", new FountainShow().part(0, 0), NO_SUCH);
        EDGES.refusedOutside("of one", 0, 0, NO_SUCH, () -> oneAt(5), (x, v) -> x.part(v, 0));
        EDGES.refusedOutside("of 60", 0, 59, NO_SUCH, () -> Shows.withCues(60), (x, v) -> x.part(v, 0));
        for (int cue : Edges.inside(0, 59)) {
            CHECK.due("cue " + cue, Shows.withCues(60).part(cue, 0), 10 + cue);
        }
    }
}

/** Promises 7 to 10: cue, remove, move, part. */
public final class CuesTest {
    private static final int[] ODD = {Integer.MIN_VALUE, -1, Integer.MAX_VALUE};
    private static final Check CHECK = new Check();

    public static void main(String[] args) {
        cue();
        mostCues();
        remove();
        move();
        part();
        carriedOut();
        CHECK.end();
    }

    /** The values of the cues, in their order. */
    private static void order(String when, FountainShow x, int... values) {
        CHECK.due(when + ": number of cues", x.state(2), values.length);
        for (int i = 0; i < values.length; i++) {
            CHECK.due(when + ": cue " + i, x.part(i, 2), values[i]);
        }
        CHECK.due(when + ": no more", x.part(values.length, 2), -1);
    }

    private static void cue() {
        FountainShow x = new FountainShow();
        CHECK.due("first", x.cue(50, 1, 1), 0);
        CHECK.due("behind", x.cue(60, 1, 2), 1);
        CHECK.due("before", x.cue(0, 1, 3), 0);
        CHECK.due("between", x.cue(50, 1, 4), 2);
        CHECK.due("behind its equals", x.cue(50, 1, 5), 3);
        CHECK.due("behind its equals at 0", x.cue(0, 1, 6), 1);
        CHECK.due("at the end", x.cue(100000, 4095, 1000), 6);
        order("added", x, 3, 6, 1, 4, 5, 2, 1000);
        CHECK.due("greatest time", x.part(6, 0), 100000);
        CHECK.due("greatest set", x.part(6, 1), 4095);
        CHECK.due("value 0", x.cue(100000, 1, 0), 7);
        CHECK.due("time too great", x.cue(100001, 1, 0), -2);
        CHECK.due("set 0", x.cue(0, 0, 0), -2);
        CHECK.due("set too great", x.cue(0, 4096, 0), -2);
        CHECK.due("value too great", x.cue(0, 1, 1001), -2);
        for (int odd : ODD) {
            CHECK.due("time " + odd, x.cue(odd, 1, 0), -2);
            CHECK.due("set " + odd, x.cue(0, odd, 0), -2);
            CHECK.due("value " + odd, x.cue(0, 1, odd), -2);
        }
        CHECK.due("none of them came", x.state(2), 8);
    }

    private static void mostCues() {
        FountainShow x = new FountainShow();
        for (int i = 0; i < 60; i++) {
            CHECK.due("cue " + i, x.cue(100 - i, 1, i), 0);
        }
        CHECK.due("cue 61", x.cue(0, 1, 0), -4);
        CHECK.due("cue 61 out of range", x.cue(0, 1, 1001), -2);
        CHECK.due("a full list moves", x.move(0, 59), 59);
        CHECK.due("a full list moves back", x.move(59, -100), 0);
        CHECK.due("last", x.part(59, 2), 0);
        CHECK.due("remove the last", x.remove(59), 59);
        CHECK.due("room again", x.cue(100000, 1, 7), 59);
    }

    private static void remove() {
        FountainShow x = new FountainShow();
        CHECK.due("nothing to remove", x.remove(0), -1);
        for (int i = 0; i < 5; i++) {
            x.cue(i, i + 1, 10 + i);
        }
        CHECK.due("remove 5", x.remove(5), -1);
        for (int odd : ODD) {
            CHECK.due("remove " + odd, x.remove(odd), -1);
        }
        CHECK.due("remove 2", x.remove(2), 4);
        order("one removed", x, 10, 11, 13, 14);
        CHECK.due("its time too", x.part(2, 0), 3);
        CHECK.due("its set too", x.part(2, 1), 4);
        CHECK.due("remove the first", x.remove(0), 3);
        CHECK.due("remove the last", x.remove(2), 2);
        order("three removed", x, 11, 13);
        x.remove(0);
        CHECK.due("remove all", x.remove(0), 0);
        order("all removed", x);
    }

    private static void move() {
        FountainShow x = new FountainShow();
        CHECK.due("no cue", x.move(0, 200000), -1);
        x.cue(10, 1, 1);
        x.cue(10, 2, 2);
        x.cue(10, 3, 3);
        x.cue(20, 4, 4);
        CHECK.due("by 0", x.move(0, 0), 2);
        order("by 0", x, 2, 3, 1, 4);
        CHECK.due("its set", x.part(2, 1), 1);
        CHECK.due("its time", x.part(2, 0), 10);
        CHECK.due("behind the one at 20", x.move(0, 10), 3);
        order("behind", x, 3, 1, 4, 2);
        CHECK.due("forward", x.move(2, -11), 0);
        order("forward", x, 4, 3, 1, 2);
        CHECK.due("time of it", x.part(0, 0), 9);
        CHECK.due("to 0", x.move(0, -9), 0);
        CHECK.due("below 0", x.move(0, -1), -2);
        CHECK.due("to the end", x.move(0, 100000), 3);
        CHECK.due("beyond the end", x.move(3, 1), -2);
        CHECK.due("back to 0", x.move(3, -100000), 0);
        CHECK.due("by too great", x.move(0, 100001), -2);
        CHECK.due("by too small", x.move(0, -100001), -2);
        CHECK.due("by far too great", x.move(0, Integer.MAX_VALUE), -2);
        CHECK.due("by far too small", x.move(0, Integer.MIN_VALUE), -2);
        for (int odd : ODD) {
            CHECK.due("move " + odd, x.move(odd, 0), -1);
        }
        CHECK.due("move 4", x.move(4, 0), -1);
        order("at the end", x, 4, 3, 1, 2);
    }

    private static void part() {
        FountainShow x = new FountainShow();
        CHECK.due("no cue first", x.part(0, 3), -1);
        x.cue(77, 2049, 345);
        CHECK.due("time", x.part(0, 0), 77);
        CHECK.due("set", x.part(0, 1), 2049);
        CHECK.due("value", x.part(0, 2), 345);
        CHECK.due("what 3", x.part(0, 3), -2);
        for (int odd : ODD) {
            CHECK.due("what " + odd, x.part(0, odd), -2);
            CHECK.due("cue " + odd, x.part(odd, 0), -1);
        }
        CHECK.due("cue 1", x.part(1, 0), -1);
    }

    private static void carriedOut() {
        FountainShow x = new FountainShow();
        x.cue(1, 3, 600);
        x.cue(1, 1, 500);
        x.cue(1, 4080, 900);
        x.tick(1);
        CHECK.due("not before its time", x.spray(0, 6), 0);
        x.tick(1);
        CHECK.due("the later one counts", x.spray(0, 6), 500);
        CHECK.due("the set counts", x.spray(1, 6), 600);
        CHECK.due("not in a set", x.spray(2, 6), 0);
        x.move(1, 0);
        x.move(0, 0);
        x.cue(0, 15, 1);
        x.tick(5);
        CHECK.due("a passed cue has no effect", x.spray(0, 6), 500);
        x.cue(7, 8, 12);
        x.tick(1);
        CHECK.due("a cue at the present time", x.spray(3, 6), 12);
    }
}

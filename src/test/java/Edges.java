import java.util.List;
import java.util.function.Supplier;

/** Calls at the ends of a range, just inside, just outside and far outside; and calls that are refused. */
final class Edges {
    interface Call {
        int on(FountainShow x);
    }

    interface Given {
        int on(FountainShow x, int value);
    }

    private final Check check;

    Edges(Check check) {
        this.check = check;
    }

    static int[] inside(int least, int most) {
        return new int[] {least, least + 1, most - 1, most};
    }

    static int[] outside(int least, int most) {
        return new int[] {least - 1, most + 1, Integer.MIN_VALUE, Integer.MAX_VALUE};
    }

    /** The call answers with the error, and all goes on as in a twin that has not been called. */
    void refused(String what, int error, Supplier<FountainShow> scene, Call call) {
        FountainShow x = scene.get();
        FountainShow twin = scene.get();
        check.due(what, call.on(x), error);
        same(what + " changes nothing", x, twin);
    }

    /** As refused, for each value that is out of the range. */
    void refusedOutside(String what, int least, int most, int error, Supplier<FountainShow> scene, Given call) {
        for (int value : outside(least, most)) {
            refused(what + " " + value, error, scene, x -> call.on(x, value));
        }
    }

    /** At the ends of the range and just inside, each on a new scene, the answer is as due. */
    void takenInside(String what, int least, int most, Supplier<FountainShow> scene, Given call, Given due) {
        for (int value : inside(least, most)) {
            FountainShow x = scene.get();
            int want = due.on(scene.get(), value);
            check.due(what + " " + value, call.on(x, value), want);
        }
    }

    /** A setting with its range: what is out of it is refused, what is in it is kept, and the one before is answered. */
    void setting(String what, int[] range, Supplier<FountainShow> scene, Given write, Call read) {
        int before = read.on(scene.get());
        refusedOutside(what, range[0], range[1], FountainShow.BAD_VALUE, scene, write);
        for (int value : inside(range[0], range[1])) {
            FountainShow x = scene.get();
            check.due(what + " to " + value, write.on(x, value), before);
            check.due(what + " is " + value, read.on(x), value);
            check.due(what + " was " + value, write.on(x, range[0]), value);
        }
    }

    /** The same answers now, behind more ticks, from the pad and from the slots. */
    void same(String what, FountainShow x, FountainShow twin) {
        sameLines(what, Shows.picture(x), Shows.picture(twin));
        sameLines(what + ", cues", Shows.cues(x), Shows.cues(twin));
        check.due(what + ", tick", x.tick(60), twin.tick(60));
        sameLines(what + ", behind ticks", Shows.motion(x), Shows.motion(twin));
        check.due(what + ", say", x.say('9'), twin.say('9'));
        check.due(what + ", read", x.read(7), twin.read(7));
        check.due(what + ", first cue", x.part(0, 2), twin.part(0, 2));
        for (int slot = 0; slot < 2; slot++) {
            check.due(what + ", restore " + slot, x.restore(slot), twin.restore(slot));
            sameLines(what + ", slot " + slot, Shows.motion(x), Shows.motion(twin));
        }
    }

    void sameLines(String what, List<String> got, List<String> want) {
        check.due(what + ": lines", got.size(), want.size());
        for (int i = 0; i < Math.min(got.size(), want.size()); i++) {
            check.isTrue(what + ": " + got.get(i) + ", due is " + want.get(i), got.get(i).equals(want.get(i)));
        }
    }
}

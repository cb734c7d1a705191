/** Each boundary that the promises 26 and 27 name: at it, just inside, just outside. */
public final class SaveEdgesTest {
    private static final int BAD_VALUE = FountainShow.BAD_VALUE;
    private static final int NOT_POSSIBLE = FountainShow.NOT_POSSIBLE;
    private static final Check CHECK = new Check();
    private static final Edges EDGES = new Edges(CHECK);

    public static void main(String[] args) {
        slotsToSaveIn();
        slotsToRestore();
        nothingWasSaved();
        savedInTheOtherSlot();
        savedOverWhatWasSaved();
        slotKeepsIt();
        timesAtTheEnds();
        numbersOfNozzlesAtTheEnds();
        numbersOfCuesAtTheEnds();
        padIsNotSaved();
        slotsAreNotSaved();
        copyIsNotTheShow();
        commandsOfTheLatestTicks();
        CHECK.end();
    }

    /** save: "0 or 1", "BAD_VALUE if the slot does not exist". */
    private static void slotsToSaveIn() {
        EDGES.refusedOutside("save", 0, 1, BAD_VALUE, Shows::busy, (x, v) -> x.save(v));
        CHECK.due("save in 0", Shows.busy().save(0), 50);
        CHECK.due("save in 1", Shows.busy().save(1), 50);
    }

    /** restore: "0 or 1", "BAD_VALUE if the slot does not exist". */
    private static void slotsToRestore() {
        EDGES.refusedOutside("restore", 0, 1, BAD_VALUE, Shows::busy, (x, v) -> x.restore(v));
        for (int slot = 0; slot < 2; slot++) {
            FountainShow x = Shows.at(7);
            x.save(slot);
            x.tick(1);
            CHECK.due("restore " + slot, x.restore(slot), 7);
            CHECK.due("the time", x.state(0), 7);
        }
    }

    /** "NOT_POSSIBLE if nothing was saved in it": of a new object, behind setUp() and rewind(). */
    private static void nothingWasSaved() {
        for (int slot = 0; slot < 2; slot++) {
            int empty = slot;
            EDGES.refused("restore " + slot, NOT_POSSIBLE, FountainShow::new, x -> x.restore(empty));
            FountainShow x = new FountainShow();
            x.setUp(3);
            x.rewind();
            CHECK.due("restore " + slot + " behind setUp", x.restore(slot), NOT_POSSIBLE);
            x.save(slot);
            CHECK.due("restore " + slot + " at the time 0", x.restore(slot), 0);
        }
    }

    /** One slot is filled, the other one is not. */
    private static void savedInTheOtherSlot() {
        for (int slot = 0; slot < 2; slot++) {
            int empty = 1 - slot;
            FountainShow x = new FountainShow();
            x.save(slot);
            CHECK.due("restore " + empty, x.restore(empty), NOT_POSSIBLE);
        }
    }

    /** "and overwrites what was saved there", "what was saved last". */
    private static void savedOverWhatWasSaved() {
        FountainShow x = Shows.withCues(60);
        x.setUp(12);
        x.cue(5, 1, 1);
        x.save(0);
        x.setUp(1);
        x.tick(3);
        CHECK.due("save over it", x.save(0), 3);
        x.setUp(2);
        CHECK.due("restore", x.restore(0), 3);
        CHECK.due("nozzles", x.state(1), 1);
        CHECK.due("cues", x.state(2), 0);
        CHECK.due("none of the first one's", x.part(0, 0), FountainShow.NO_SUCH);
    }

    /** "which keeps it": once, twice, thrice. */
    private static void slotKeepsIt() {
        FountainShow x = Shows.busy();
        x.save(1);
        for (int i = 0; i < 3; i++) {
            x.setUp(1 + i);
            x.tick(9);
            CHECK.due("restore " + i, x.restore(1), 50);
            CHECK.due("nozzles", x.state(1), 5);
            x.remove(0);
        }
        CHECK.due("the other slot", x.restore(0), 5);
        CHECK.due("and it again", x.restore(1), 50);
        CHECK.due("its cues", x.state(2), 8);
    }

    /** "Returns the time": 0, 1, 199999, 200000. */
    private static void timesAtTheEnds() {
        for (int time : Edges.inside(0, 200000)) {
            FountainShow x = Shows.at(time);
            CHECK.due("save at " + time, x.save(0), time);
            x.rewind();
            x.tick(50);
            CHECK.due("restore at " + time, x.restore(0), time);
            CHECK.due("a tick from " + time, x.tick(1), time == 200000 ? NOT_POSSIBLE : time + 1);
        }
    }

    /** 1 and 12 nozzles, and back. */
    private static void numbersOfNozzlesAtTheEnds() {
        FountainShow x = Shows.small(12);
        x.command(4095, 900);
        x.tick(1);
        x.save(0);
        x.setUp(1);
        x.save(1);
        x.restore(0);
        CHECK.due("twelve", x.state(1), 12);
        CHECK.due("the last one", x.spray(11, 7), 900);
        CHECK.due("its setting", x.spray(11, 0), 1);
        x.restore(1);
        CHECK.due("one", x.state(1), 1);
        CHECK.due("no second one", x.spray(1, 7), FountainShow.NO_SUCH);
    }

    /** 0 and 60 cues, and back. */
    private static void numbersOfCuesAtTheEnds() {
        FountainShow x = Shows.withCues(60);
        x.save(0);
        x.setUp(4);
        x.save(1);
        x.restore(0);
        CHECK.due("sixty", x.state(2), 60);
        CHECK.due("the last one", x.part(59, 2), 59);
        CHECK.due("no more", x.cue(0, 1, 1), FountainShow.TOO_MANY);
        x.restore(1);
        CHECK.due("none", x.state(2), 0);
        CHECK.due("the first", x.cue(0, 1, 1), 0);
    }

    /** "everything except the pad": empty then and full now, full then and empty now. */
    private static void padIsNotSaved() {
        FountainShow x = new FountainShow();
        x.save(0);
        Shows.write(x, "12345678901234567890123456789012345678901234567890123456789012345678901234567890");
        x.restore(0);
        CHECK.due("full", x.state(9), 80);
        CHECK.due("no more", x.say('1'), FountainShow.TOO_MANY);
        x.save(0);
        CHECK.due("full behind save", x.state(9), 80);
        x.wipe();
        x.restore(0);
        CHECK.due("empty", x.state(9), 0);
        x.say('5');
        x.restore(0);
        x.say(':');
        CHECK.due("its text", x.fault(), 2);
    }

    /** "everything except .. the slots": a slot that is filled later stays filled, and that of the save itself. */
    private static void slotsAreNotSaved() {
        FountainShow x = new FountainShow();
        x.save(0);
        x.tick(4);
        x.save(1);
        x.tick(4);
        CHECK.due("restore 0", x.restore(0), 0);
        CHECK.due("restore 1", x.restore(1), 4);
        x.tick(2);
        x.save(0);
        CHECK.due("restore 1 again", x.restore(1), 4);
        CHECK.due("restore 0 again", x.restore(0), 6);
    }

    /** What happens to the show behind save() or restore() does not happen to the slot. */
    private static void copyIsNotTheShow() {
        FountainShow x = Shows.busy();
        FountainShow twin = Shows.busy();
        x.save(1);
        twin.save(1);
        for (int i = 0; i < 2; i++) {
            x.command(31, 1000);
            x.nozzle(4, FountainShow.SIZE, 100);
            x.pump(2, FountainShow.CAPACITY, 2000);
            x.set(FountainShow.SPLASH, 0);
            x.wind(300);
            x.move(0, 100);
            x.cue(55, 31, 999);
            x.tick(10);
            x.restore(1);
        }
        EDGES.same("restored", x, twin);
    }

    /** The commands of the latest 50 ticks are saved as well: restored behind a setUp() or a rewind(). */
    private static void commandsOfTheLatestTicks() {
        for (int ticks : new int[] {1, 49, 50, 51}) {
            FountainShow x = Shows.small(1);
            x.nozzle(0, FountainShow.LAG, 50);
            x.cue(0, 1, 700);
            x.cue(1, 1, 0);
            x.tick(ticks);
            x.save(0);
            x.setUp(1);
            x.tick(60);
            x.rewind();
            x.restore(0);
            CHECK.due("at " + ticks, x.spray(0, 7), ticks == 51 ? 700 : 0);
            if (ticks < 51) {
                x.tick(51 - ticks);
                CHECK.due("50 ticks ago, from " + ticks, x.spray(0, 7), 700);
            }
            x.tick(1);
            CHECK.due("behind it, from " + ticks, x.spray(0, 7), 0);
        }
    }
}

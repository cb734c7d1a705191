/** Promises 26 and 27: save, restore. */
public final class SaveTest {
    private static final int[] ODD = {Integer.MIN_VALUE, -1, 2, Integer.MAX_VALUE};
    private static final Check CHECK = new Check();
    private static final Edges EDGES = new Edges(CHECK);

    public static void main(String[] args) {
        errors();
        slots();
        everythingComesBack();
        CHECK.end();
    }

    private static void errors() {
        FountainShow x = new FountainShow();
        for (int odd : ODD) {
            CHECK.due("save " + odd, x.save(odd), -2);
            CHECK.due("restore " + odd, x.restore(odd), -2);
        }
        CHECK.due("nothing in 0", x.restore(0), -5);
        CHECK.due("nothing in 1", x.restore(1), -5);
        CHECK.due("save at 0", x.save(1), 0);
        CHECK.due("still nothing in 0", x.restore(0), -5);
        CHECK.due("restore at 0", x.restore(1), 0);
    }

    private static void slots() {
        FountainShow x = new FountainShow();
        x.tick(3);
        CHECK.due("save in 0", x.save(0), 3);
        x.tick(4);
        CHECK.due("save in 1", x.save(1), 7);
        x.tick(1);
        CHECK.due("restore 0", x.restore(0), 3);
        CHECK.due("time", x.state(0), 3);
        CHECK.due("restore 1", x.restore(1), 7);
        x.tick(1);
        CHECK.due("the slot keeps it", x.restore(1), 7);
        CHECK.due("overwrite", x.save(0), 7);
        CHECK.due("overwritten", x.restore(0), 7);
        x.say('1');
        x.save(0);
        x.say(':');
        x.restore(0);
        CHECK.due("the pad stays", x.state(9), 2);
        x.restore(1);
        x.tick(1);
        x.save(1);
        CHECK.due("slots are not saved", x.restore(0), 7);
        CHECK.due("slots are not restored", x.restore(1), 8);
    }

    private static void everythingComesBack() {
        FountainShow x = Shows.busy();
        x.save(1);
        x.setUp(12);
        for (int p = 0; p < 3; p++) {
            x.pump(p, FountainShow.CAPACITY, 2000);
        }
        x.wind(300);
        x.command(4095, 1000);
        x.tick(100);
        CHECK.due("restore", x.restore(1), 50);
        EDGES.same("restored", x, saved());
        FountainShow y = saved();
        y.rewind();
        y.tick(70);
        CHECK.due("restore behind rewind", y.restore(1), 50);
        EDGES.same("restored behind rewind", y, saved());
    }

    private static FountainShow saved() {
        FountainShow x = Shows.busy();
        x.save(1);
        return x;
    }
}

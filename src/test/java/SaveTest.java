/** Promises 26 and 27: save, restore. */
public final class SaveTest {
    private static final int[] ODD = {Integer.MIN_VALUE, -1, 2, Integer.MAX_VALUE};
    private static final Check CHECK = new Check();

    public static void main(String[] args) {
        errors();
        slots();
        everythingComesBack();
        CHECK.end();
    }

    private static void errors() {
        FountainShow x = new FountainShow();
        for (int odd : ODD) {
            CHECK.due("save " + odd, x.save(odd), -2);
            CHECK.due("restore " + odd, x.restore(odd), -2);
        }
        CHECK.due("nothing in 0", x.restore(0), -5);
        CHECK.due("nothing in 1", x.restore(1), -5);
        CHECK.due("save at 0", x.save(1), 0);
        CHECK.due("still nothing in 0", x.restore(0), -5);
        CHECK.due("restore at 0", x.restore(1), 0);
    }

    private static void slots() {
        FountainShow x = new FountainShow();
        x.tick(3);
        CHECK.due("save in 0", x.save(0), 3);
        x.tick(4);
        CHECK.due("save in 1", x.save(1), 7);
        x.tick(1);
        CHECK.due("restore 0", x.restore(0), 3);
        CHECK.due("time", x.state(0), 3);
        CHECK.due("restore 1", x.restore(1), 7);
        x.tick(1);
        CHECK.due("the slot keeps it", x.restore(1), 7);
        CHECK.due("overwrite", x.save(0), 7);
        CHECK.due("overwritten", x.restore(0), 7);
        x.say('1');
        x.save(0);
        x.say(':');
        x.restore(0);
        CHECK.due("the pad stays", x.state(9), 2);
        x.restore(1);
        x.tick(1);
        x.save(1);
        CHECK.due("slots are not saved", x.restore(0), 7);
        CHECK.due("slots are not restored", x.restore(1), 8);
    }

    private static FountainShow busy() {
        FountainShow x = new FountainShow();
        x.setUp(5);
        for (int n = 0; n < 5; n++) {
            x.nozzle(n, FountainShow.SIZE, 11 + n);
            x.nozzle(n, FountainShow.HEIGHT, 4000 + n);
            x.nozzle(n, FountainShow.LAG, 10 * n);
            x.nozzle(n, FountainShow.SPEED, 100 + n);
            x.nozzle(n, FountainShow.PUMP, n % 3);
            x.nozzle(n, FountainShow.DRIFT, 90 + n);
        }
        for (int p = 0; p < 3; p++) {
            x.pump(p, FountainShow.CAPACITY, 5 + p);
            x.pump(p, FountainShow.RISE, 2 + p);
        }
        x.set(FountainShow.FILTER, 5);
        x.set(FountainShow.FIRST, 61);
        x.set(FountainShow.SECOND, 120);
        x.set(FountainShow.CUT, 650);
        x.set(FountainShow.HOLD, 20);
        x.set(FountainShow.SPLASH, 50);
        x.wind(70);
        for (int i = 0; i < 20; i++) {
            x.cue(7 * i, 1 + i, 1000 - 40 * i);
        }
        x.tick(80);
        x.wind(40);
        x.tick(5);
        return x;
    }

    private static int[] all(FountainShow x) {
        int[] found = new int[600];
        int at = 0;
        for (int i = 0; i < 16; i++) {
            found[at++] = x.state(i);
        }
        for (int n = 0; n < x.state(1); n++) {
            for (int i = 0; i < 12; i++) {
                found[at++] = x.spray(n, i);
            }
        }
        for (int p = 0; p < 3; p++) {
            for (int i = 0; i < 5; i++) {
                found[at++] = x.pressure(p, i);
            }
        }
        for (int c = 0; c < x.state(2); c++) {
            for (int i = 0; i < 3; i++) {
                found[at++] = x.part(c, i);
            }
        }
        return found;
    }

    private static void same(String when, int[] got, int[] want) {
        for (int i = 0; i < want.length; i++) {
            CHECK.due(when + ", number " + i, got[i], want[i]);
        }
    }

    private static void everythingComesBack() {
        FountainShow x = busy();
        int[] then = all(x);
        CHECK.isTrue("calm", x.state(6) > 0);
        x.save(0);
        x.tick(60);
        int[] later = all(x);
        x.setUp(12);
        for (int p = 0; p < 3; p++) {
            x.pump(p, FountainShow.CAPACITY, 2000);
        }
        x.wind(300);
        x.command(4095, 1000);
        x.tick(100);
        CHECK.due("restore", x.restore(0), 85);
        same("restored", all(x), then);
        x.tick(60);
        same("the same goes on", all(x), later);
        x.rewind();
        x.restore(0);
        same("restored behind rewind", all(x), then);
        x.tick(60);
        same("the same goes on behind rewind", all(x), later);
    }
}

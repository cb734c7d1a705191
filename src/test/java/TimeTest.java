/** Promises 11 to 13: command, tick, rewind, and the steps of a tick. */
public final class TimeTest {
    private static final int[] ODD = {Integer.MIN_VALUE, -1, 0, Integer.MAX_VALUE};
    private static final Check CHECK = new Check();

    public static void main(String[] args) {
        command();
        tick();
        rewind();
        lag();
        speed();
        pumps();
        shares();
        heights();
        filter();
        stages();
        stageBounds();
        cut();
        wet();
        CHECK.end();
    }

    private static void command() {
        FountainShow x = new FountainShow();
        CHECK.due("at 0", x.command(5, 1000), 0);
        CHECK.due("first", x.spray(0, 6), 1000);
        CHECK.due("not in the set", x.spray(1, 6), 0);
        CHECK.due("third", x.spray(2, 6), 1000);
        CHECK.due("nozzles that do not exist", x.command(4095, 0), 0);
        CHECK.due("value 0", x.spray(2, 6), 0);
        x.tick(7);
        CHECK.due("at 7", x.command(4080, 9), 7);
        CHECK.due("no nozzle changed", x.spray(3, 6), 0);
        for (int odd : ODD) {
            CHECK.due("set " + odd, x.command(odd, 1), -2);
        }
        CHECK.due("set 4096", x.command(4096, 1), -2);
        CHECK.due("value 1001", x.command(1, 1001), -2);
        CHECK.due("value -1", x.command(1, -1), -2);
        CHECK.due("value greatest", x.command(1, Integer.MAX_VALUE), -2);
        CHECK.due("value least", x.command(1, Integer.MIN_VALUE), -2);
        CHECK.due("unchanged", x.spray(0, 6), 0);
        // A nozzle that did not exist when it was commanded stays without a command.
        x.command(4095, 500);
        x.setUp(12);
        CHECK.due("left out", x.spray(4, 6), 0);
        x.cue(0, 1, 300);
        x.command(1, 700);
        x.tick(1);
        CHECK.due("a cue of the tick comes later", x.spray(0, 6), 300);
        x.command(1, 700);
        x.tick(1);
        CHECK.due("a command behind it stays", x.spray(0, 6), 700);
    }

    private static void tick() {
        FountainShow x = new FountainShow();
        for (int odd : ODD) {
            CHECK.due("ticks " + odd, x.tick(odd), -2);
        }
        CHECK.due("ticks 2001", x.tick(2001), -2);
        CHECK.due("no tick made", x.state(0), 0);
        CHECK.due("one", x.tick(1), 1);
        for (int i = 1; i < 100; i++) {
            CHECK.due("2000 ticks", x.tick(2000), 2000 * i + 1);
        }
        CHECK.due("time too great", x.tick(2000), -5);
        CHECK.due("out of range comes first", x.tick(2001), -2);
        CHECK.due("no tick made then", x.state(0), 198001);
        CHECK.due("to the last time", x.tick(1999), 200000);
        CHECK.due("beyond it", x.tick(1), -5);
        CHECK.due("the last time", x.state(0), 200000);
        CHECK.due("a copy's time is not limited", x.ahead(1000, 0, 1), 0);
        CHECK.due("no cue is next", x.state(8), -6);
        CHECK.due("back", x.rewind(), 200000);
        CHECK.due("again", x.tick(2000), 2000);
    }

    private static void rewind() {
        FountainShow x = new FountainShow();
        CHECK.due("at 0", x.rewind(), 0);
        x.nozzle(0, FountainShow.DRIFT, 100);
        x.nozzle(0, FountainShow.HEIGHT, 5000);
        x.nozzle(1, FountainShow.LAG, 50);
        x.pump(0, FountainShow.CAPACITY, 5);
        x.set(FountainShow.FIRST, 40);
        x.set(FountainShow.SPLASH, 0);
        x.set(FountainShow.CUT, 900);
        x.wind(45);
        x.cue(3, 15, 1000);
        x.command(15, 800);
        x.tick(55);
        x.wind(25);
        x.tick(5);
        CHECK.isTrue("counts", x.state(7) > 0 && x.state(6) > 0 && x.state(5) == 1 && x.pressure(0, 4) > 0
            && x.spray(0, 10) > 0);
        CHECK.due("back", x.rewind(), 60);
        for (int n = 0; n < 4; n++) {
            for (int i = 6; i < 12; i++) {
                CHECK.due("spray " + n + " " + i, x.spray(n, i), 0);
            }
        }
        for (int i = 4; i < 8; i++) {
            CHECK.due("state " + i, x.state(i), 0);
        }
        for (int i = 2; i < 5; i++) {
            CHECK.due("pressure " + i, x.pressure(0, i), 0);
        }
        CHECK.due("time", x.state(0), 0);
        CHECK.due("the wind stays", x.state(3), 25);
        CHECK.due("cues stay", x.part(0, 2), 1000);
        CHECK.due("nozzle settings stay", x.spray(0, 5), 100);
        CHECK.due("pump settings stay", x.pressure(0, 0), 5);
        CHECK.due("settings stay", x.state(13), 900);
        x.tick(53);
        CHECK.due("there were no ticks", x.spray(1, 7), 0);
        CHECK.due("the cue came again", x.spray(0, 6), 1000);
        x.tick(1);
        CHECK.due("the cue of tick 3, 50 ticks later", x.spray(1, 7), 200);
        x.remove(0);
        x.command(15, 1000);
        x.tick(70);
        x.rewind();
        x.tick(70);
        CHECK.due("no flow is left", x.pressure(0, 2), 0);
    }

    private static void lag() {
        for (int lag = 0; lag <= 50; lag += 10) {
            FountainShow x = new FountainShow();
            x.nozzle(0, FountainShow.LAG, lag);
            x.command(1, 100);
            x.tick(1);
            x.command(1, 50);
            if (lag > 0) {
                CHECK.due("lag before " + lag, x.spray(0, 7), 0);
                x.tick(lag);
            }
            CHECK.due("lag " + lag, x.spray(0, 7), 100);
            x.tick(1);
            CHECK.due("lag behind " + lag, x.spray(0, 7), 50);
        }
        FountainShow x = new FountainShow();
        x.nozzle(0, FountainShow.LAG, 0);
        x.nozzle(0, FountainShow.SPEED, 1000);
        for (int i = 0; i < 140; i++) {
            x.command(1, i);
            x.tick(1);
        }
        CHECK.due("lag 0", x.spray(0, 7), 139);
        x.nozzle(0, FountainShow.LAG, 50);
        x.tick(1);
        CHECK.due("lag 50: the tick 50 ago", x.spray(0, 7), 90);
        x.nozzle(0, FountainShow.LAG, 1);
        x.command(1, 500);
        x.tick(1);
        CHECK.due("lag 1: the tick before", x.spray(0, 7), 139);
        x.nozzle(0, FountainShow.LAG, 40);
        x.rewind();
        x.command(1, 5);
        x.tick(40);
        CHECK.due("no tick 40 ago", x.spray(0, 7), 0);
    }

    private static void speed() {
        FountainShow x = new FountainShow();
        x.nozzle(0, FountainShow.LAG, 0);
        x.nozzle(0, FountainShow.SPEED, 300);
        x.command(1, 1000);
        int[] up = {300, 600, 900, 1000, 1000};
        for (int want : up) {
            x.tick(1);
            CHECK.due("opens", x.spray(0, 7), want);
        }
        x.command(1, 350);
        int[] down = {700, 400, 350, 350};
        for (int want : down) {
            x.tick(1);
            CHECK.due("closes", x.spray(0, 7), want);
        }
    }

    private static void pumps() {
        FountainShow x = Shows.quick(1);
        x.nozzle(0, FountainShow.SIZE, 100);
        x.pump(0, FountainShow.CAPACITY, 55);
        x.command(1, 1000);
        int[] up = {20000, 40000, 55000, 55000};
        for (int want : up) {
            x.tick(1);
            CHECK.due("rises", x.pressure(0, 2), want);
        }
        CHECK.due("demand", x.pressure(0, 3), 100000);
        CHECK.due("short in all", x.pressure(0, 4), 4);
        x.command(1, 300);
        x.tick(1);
        CHECK.due("falls", x.pressure(0, 2), 35000);
        CHECK.due("no more than the demand flows", x.spray(0, 8), 30000);
        CHECK.due("not short", x.pressure(0, 4), 4);
        x.tick(1);
        CHECK.due("falls to the demand", x.pressure(0, 2), 30000);
        CHECK.due("the load", x.load(0), (double) (30000f / 55000f));
        x.pump(0, FountainShow.CAPACITY, 0);
        CHECK.due("the load without capacity", x.load(0), 0.0);
        x.tick(2);
        CHECK.due("nothing is left", x.pressure(0, 2), 0);
        CHECK.due("nothing flows", x.spray(0, 8), 0);
        CHECK.due("short", x.pressure(0, 4), 6);
        x.nozzle(0, FountainShow.PUMP, 2);
        CHECK.due("demand of the latest tick", x.pressure(0, 3), 30000);
        x.tick(1);
        CHECK.due("demand moved away", x.pressure(0, 3), 0);
        CHECK.due("demand moved here", x.pressure(2, 3), 30000);
        CHECK.due("flow here", x.pressure(2, 2), 20000);
        CHECK.due("pump 1 is idle", x.pressure(1, 3), 0);
    }

    private static void shares() {
        FountainShow x = Shows.quick(12);
        for (int i = 0; i < 12; i++) {
            x.nozzle(i, FountainShow.SIZE, 100);
        }
        x.pump(0, FountainShow.CAPACITY, 2000);
        x.pump(0, FountainShow.RISE, 500);
        x.command(4095, 1000);
        x.tick(1);
        CHECK.due("demand", x.pressure(0, 3), 1200000);
        CHECK.due("flow", x.pressure(0, 2), 500000);
        CHECK.due("share 11", x.spray(11, 8), 41666);
        CHECK.due("height 11", x.spray(11, 9), 173);
        x.tick(1);
        CHECK.due("share then", x.spray(11, 8), 83333);
        x.tick(1);
        CHECK.due("all", x.spray(11, 8), 100000);
        CHECK.due("short twice", x.pressure(0, 4), 2);
        x.setUp(2);
        x.nozzle(0, FountainShow.LAG, 0);
        x.nozzle(1, FountainShow.LAG, 0);
        x.nozzle(0, FountainShow.SPEED, 1000);
        x.nozzle(1, FountainShow.SPEED, 1000);
        x.nozzle(1, FountainShow.SIZE, 7);
        x.pump(0, FountainShow.CAPACITY, 3);
        x.command(1, 501);
        x.command(2, 333);
        x.tick(1);
        // demands 5010 and 2331, in all 7341, of which 3000 flow
        CHECK.due("share 0", x.spray(0, 8), 2047);
        CHECK.due("share 1", x.spray(1, 8), 952);
        // v = 204 and 136
        CHECK.due("height 0", x.spray(0, 9), 41);
        CHECK.due("height 1", x.spray(1, 9), 18);
        CHECK.due("mean", x.meanHeight(), 29.5);
    }

    private static void heights() {
        FountainShow x = Shows.quick(1);
        x.nozzle(0, FountainShow.HEIGHT, 5000);
        x.command(1, 1000);
        x.tick(1);
        CHECK.due("highest", x.spray(0, 9), 5000);
        x.command(1, 999);
        x.tick(1);
        CHECK.due("less", x.spray(0, 9), 4990);
        CHECK.due("the greatest is kept", x.spray(0, 11), 5000);
        x.nozzle(0, FountainShow.HEIGHT, 1);
        CHECK.due("as behind the latest tick", x.spray(0, 9), 4990);
        x.tick(1);
        CHECK.due("low", x.spray(0, 9), 0);
        x.nozzle(0, FountainShow.HEIGHT, 5000);
        x.nozzle(0, FountainShow.DRIFT, 100);
        x.set(FountainShow.FILTER, 1);
        x.set(FountainShow.FIRST, 300);
        x.set(FountainShow.SECOND, 300);
        x.wind(299);
        x.command(1, 1000);
        x.tick(1);
        CHECK.due("drift", x.spray(0, 10), 1495);
        x.nozzle(0, FountainShow.DRIFT, 7);
        x.tick(1);
        CHECK.due("drift rounded down", x.spray(0, 10), 104);
        x.nozzle(0, FountainShow.HEIGHT, 4987);
        x.command(1, 920);
        x.tick(1);
        // 4220.9968
        CHECK.due("height rounded down", x.spray(0, 9), 4220);
        x.nozzle(0, FountainShow.HEIGHT, 4999);
        x.nozzle(0, FountainShow.DRIFT, 97);
        x.wind(53);
        x.command(1, 1000);
        x.tick(1);
        // 256.99859
        CHECK.due("drift just below the next", x.spray(0, 10), 256);
    }

    private static void filter() {
        FountainShow x = new FountainShow();
        x.set(FountainShow.FILTER, 64);
        x.wind(300);
        x.tick(1);
        CHECK.due("F = 4800", x.state(4), 4);
        x.tick(1);
        // F = 4800 + 302400 / 64 = 9525
        CHECK.due("F = 9525", x.state(4), 9);
        x.wind(0);
        x.tick(1);
        // -9525 / 64 = -148.8.., rounded down: F = 9376
        CHECK.due("F = 9376", x.state(4), 9);
        x.set(FountainShow.FILTER, 2);
        x.tick(1);
        CHECK.due("F = 4688", x.state(4), 4);
        x.set(FountainShow.FILTER, 3);
        x.tick(1);
        // -4688 / 3 = -1562.6..: F = 3125
        CHECK.due("F = 3125", x.state(4), 3);
        x.tick(1);
        x.tick(1);
        // -3125 / 3 = -1041.6.. and -2083 / 3 = -694.3..: F = 2083, F = 1388
        CHECK.due("F = 1388", x.state(4), 1);
        x.set(FountainShow.FILTER, 64);
        // Each tick takes a 64th, rounded up: 1366, 1344, 1323, .., 1037 after 18 ticks, 1020 after 19
        x.tick(18);
        CHECK.due("F = 1037", x.state(4), 1);
        x.tick(1);
        CHECK.due("F = 1020", x.state(4), 0);
        FountainShow y = new FountainShow();
        y.wind(1);
        y.tick(100);
        // Rounded down, F stays at 1021: the remaining 3 / 4 is 0.
        CHECK.due("F does not reach the wind", y.state(4), 0);
        y.set(FountainShow.FILTER, 1);
        y.tick(1);
        CHECK.due("unfiltered", y.state(4), 1);
        y.set(FountainShow.FILTER, 4);
        y.wind(300);
        y.tick(300);
        CHECK.due("F = 307197", y.state(4), 299);
        filterFromZero("new", new FountainShow());
        y.rewind();
        filterFromZero("rewound", y);
    }

    /** The last bit of F decides: from F = 1 the measured wind would be 109 after 18 ticks, from F = -1 0 after one. */
    private static void filterFromZero(String when, FountainShow x) {
        x.set(FountainShow.FILTER, 5);
        x.wind(111);
        x.tick(18);
        CHECK.due(when + ": from 0, not above", x.state(4), 108);
        x.rewind();
        x.set(FountainShow.FILTER, 2);
        x.wind(2);
        x.tick(1);
        CHECK.due(when + ": from 0, not below", x.state(4), 1);
    }

    private static void blow(String what, FountainShow x, int wind, int stage, int calm) {
        x.wind(wind);
        x.tick(1);
        CHECK.due(what + ": stage", x.state(5), stage);
        CHECK.due(what + ": calm", x.state(6), calm);
    }

    private static void stages() {
        FountainShow x = new FountainShow();
        x.set(FountainShow.FILTER, 1);
        x.set(FountainShow.HOLD, 3);
        blow("below FIRST", x, 79, 0, 0);
        blow("FIRST", x, 80, 1, 0);
        blow("below FIRST but not calm", x, 70, 1, 0);
        blow("calm", x, 69, 1, 1);
        blow("calm", x, 0, 1, 2);
        blow("not calm", x, 75, 1, 0);
        blow("calm", x, 69, 1, 1);
        blow("above FIRST in the stage 1", x, 120, 1, 0);
        blow("calm", x, 69, 1, 1);
        blow("below SECOND", x, 149, 1, 0);
        blow("SECOND", x, 150, 2, 0);
        blow("FIRST in the stage 2 is calm", x, 139, 2, 1);
        blow("SECOND in the stage 2", x, 300, 2, 0);
        blow("not calm in the stage 2", x, 140, 2, 0);
        blow("calm in the stage 2", x, 80, 2, 1);
        blow("calm in the stage 2", x, 0, 2, 2);
        blow("HOLD: the stage decreases", x, 0, 1, 0);
        blow("calm in the stage 1", x, 0, 1, 1);
        blow("calm in the stage 1", x, 0, 1, 2);
        blow("HOLD: the stage is 0", x, 0, 0, 0);
        blow("no count in the stage 0", x, 0, 0, 0);
        blow("from 0 to 2", x, 150, 2, 0);
        x.set(FountainShow.HOLD, 0);
        blow("HOLD 0", x, 0, 1, 0);
        x.set(FountainShow.HOLD, 1);
        blow("HOLD 1", x, 0, 0, 0);
    }

    private static void stageBounds() {
        FountainShow x = new FountainShow();
        x.set(FountainShow.FILTER, 1);
        x.set(FountainShow.FIRST, 200);
        x.set(FountainShow.SECOND, 100);
        blow("SECOND is looked at first", x, 100, 2, 0);
        x.set(FountainShow.HOLD, 1);
        blow("from 2 to 1", x, 89, 1, 0);
        blow("calm for FIRST", x, 99, 0, 0);
        x.set(FountainShow.FIRST, 0);
        blow("FIRST 0", x, 0, 1, 0);
        blow("never calm", x, 0, 1, 0);
        x.set(FountainShow.SECOND, 0);
        blow("SECOND 0", x, 0, 2, 0);
        x.set(FountainShow.SECOND, 10);
        blow("not below 0", x, 0, 2, 0);
        x.set(FountainShow.SECOND, 11);
        blow("below 1", x, 0, 1, 0);
    }

    private static void cut() {
        FountainShow x = Shows.quick(2);
        x.nozzle(1, FountainShow.SPEED, 300);
        x.set(FountainShow.FILTER, 1);
        x.set(FountainShow.CUT, 400);
        x.command(1, 1000);
        x.command(2, 350);
        x.tick(2);
        x.wind(80);
        x.tick(1);
        CHECK.due("cut in the stage 1", x.spray(0, 7), 400);
        CHECK.due("less is not cut", x.spray(1, 7), 350);
        CHECK.due("the command stays", x.spray(0, 6), 1000);
        x.set(FountainShow.CUT, 0);
        x.tick(1);
        CHECK.due("cut to 0", x.spray(0, 7), 0);
        CHECK.due("with its speed", x.spray(1, 7), 50);
        x.set(FountainShow.CUT, 1000);
        x.tick(1);
        CHECK.due("not cut", x.spray(0, 7), 1000);
        x.wind(150);
        x.tick(1);
        CHECK.due("off in the stage 2", x.spray(0, 7), 0);
        CHECK.due("off with its speed", x.spray(1, 7), 50);
        x.tick(1);
        CHECK.due("off", x.spray(1, 7), 0);
    }

    private static void wet() {
        FountainShow x = Shows.quick(3);
        x.set(FountainShow.FILTER, 1);
        x.set(FountainShow.FIRST, 300);
        x.set(FountainShow.SECOND, 300);
        x.wind(100);
        x.command(4, 1000);
        // height 1000, drift 1000 * 100 * 10 / 100000 = 10
        x.set(FountainShow.SPLASH, 10);
        x.tick(3);
        CHECK.due("drift", x.spray(2, 10), 10);
        CHECK.due("not greater", x.state(7), 0);
        x.set(FountainShow.SPLASH, 9);
        x.tick(3);
        CHECK.due("greater", x.state(7), 3);
        x.command(7, 1000);
        x.tick(2);
        CHECK.due("a tick counts once", x.state(7), 5);
        CHECK.due("measured of this tick", x.spray(0, 10), 10);
        x.wind(0);
        x.tick(1);
        CHECK.due("dry", x.state(7), 5);
    }
}

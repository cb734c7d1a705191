/** Promises 1 to 6: a new object, setUp, nozzle, pump, set, wind. */
public final class SettingsTest {
    private static final int[] NOZZLE_LEAST = {1, 1, 0, 1, 0, 0};
    private static final int[] NOZZLE_MOST = {100, 5000, 50, 1000, 2, 100};
    private static final int[] NOZZLE_INITIAL = {10, 1000, 3, 200, 0, 10};
    private static final int[] PUMP_LEAST = {0, 1};
    private static final int[] PUMP_MOST = {2000, 500};
    private static final int[] PUMP_INITIAL = {100, 20};
    private static final int[] SHOW_LEAST = {1, 0, 0, 0, 0, 0};
    private static final int[] SHOW_MOST = {64, 300, 300, 1000, 600, 5000};
    private static final int[] SHOW_INITIAL = {4, 80, 150, 500, 30, 200};
    private static final int[] ODD = {Integer.MIN_VALUE, -1, Integer.MAX_VALUE};
    private static final Check CHECK = new Check();

    public static void main(String[] args) {
        newObject();
        setUp();
        setUpAgain();
        nozzle();
        pump();
        set();
        wind();
        CHECK.end();
    }

    private static void initial(String when, FountainShow x, int nozzles) {
        for (int i = 0; i < 16; i++) {
            int want = i == 1 ? nozzles : i == 8 ? FountainShow.NONE : i >= 10 ? SHOW_INITIAL[i - 10] : 0;
            CHECK.due(when + " state " + i, x.state(i), want);
        }
        for (int n = 0; n < nozzles; n++) {
            for (int i = 0; i < 12; i++) {
                CHECK.due(when + " spray " + n + " " + i, x.spray(n, i), i < 6 ? NOZZLE_INITIAL[i] : 0);
            }
        }
        CHECK.due(when + " spray behind the last", x.spray(nozzles, 0), -1);
        for (int p = 0; p < 3; p++) {
            for (int i = 0; i < 5; i++) {
                CHECK.due(when + " pressure " + p + " " + i, x.pressure(p, i), i < 2 ? PUMP_INITIAL[i] : 0);
            }
        }
        CHECK.due(when + " part", x.part(0, 0), -1);
        CHECK.due(when + " meanHeight", x.meanHeight(), 0.0);
    }

    private static void newObject() {
        initial("new", new FountainShow(), 4);
        FountainShow x = new FountainShow();
        CHECK.due("new fault", x.fault(), 0);
        CHECK.due("new restore 0", x.restore(0), -5);
        CHECK.due("new restore 1", x.restore(1), -5);
    }

    private static void setUp() {
        FountainShow x = new FountainShow();
        CHECK.due("setUp 0", x.setUp(0), -2);
        CHECK.due("setUp 13", x.setUp(13), -2);
        for (int odd : ODD) {
            CHECK.due("setUp " + odd, x.setUp(odd), -2);
        }
        CHECK.due("setUp 12", x.setUp(12), 4);
        CHECK.due("setUp 1", x.setUp(1), 12);
        CHECK.due("setUp 12 again", x.setUp(12), 1);
        disturb(x);
        CHECK.due("setUp 12 from all", x.setUp(12), 12);
        initial2("set up", x);
        x.tick(60);
        for (int n = 0; n < 12; n++) {
            CHECK.due("no command is left " + n, x.spray(n, 11), 0);
        }
    }

    private static void setUpAgain() {
        FountainShow x = new FountainShow();
        x.setUp(12);
        x.tick(60);
        disturb(x);
        CHECK.due("setUp out of range changes nothing", x.setUp(13), -2);
        CHECK.due("state 0 stays", x.state(0), 120);
        CHECK.due("state 2 stays", x.state(2), 1);
        x.setUp(3);
        CHECK.due("the slot stays", x.restore(1), 120);
        CHECK.due("the slot had 12 nozzles", x.state(1), 12);
    }

    /** As initial, but for the pad, which setUp leaves alone. */
    private static void initial2(String when, FountainShow x) {
        CHECK.due("the pad stays", x.state(9), 2);
        CHECK.due("the text stays", x.fault(), 2);
        x.wipe();
        initial(when, x, 12);
        x.say('7');
    }

    private static void disturb(FountainShow x) {
        for (int n = 0; n < 12; n++) {
            for (int s = 0; s < 6; s++) {
                x.nozzle(n, s, NOZZLE_LEAST[s] + 1);
            }
            x.nozzle(n, FountainShow.PUMP, n % 3);
            x.nozzle(n, FountainShow.SPEED, 1000);
            x.nozzle(n, FountainShow.HEIGHT, 5000);
            x.nozzle(n, FountainShow.DRIFT, 100);
        }
        for (int p = 0; p < 3; p++) {
            x.pump(p, FountainShow.CAPACITY, 1);
            x.pump(p, FountainShow.RISE, 1);
        }
        for (int s = 0; s < 6; s++) {
            x.set(s, SHOW_LEAST[s]);
        }
        x.set(FountainShow.FIRST, 100);
        x.set(FountainShow.SECOND, 300);
        x.set(FountainShow.HOLD, 600);
        x.set(FountainShow.CUT, 1000);
        x.wind(200);
        x.cue(0, 4095, 1000);
        x.command(4095, 900);
        x.tick(59);
        x.wind(80);
        x.tick(1);
        x.save(1);
        x.say('1');
        x.say(':');
        for (int n = 0; n < 12; n++) {
            CHECK.isTrue("nozzle " + n + " rises", x.spray(n, 9) > 0 && x.spray(n, 10) > 0);
        }
        CHECK.due("it is calm", x.state(6), 1);
        CHECK.isTrue("it is wet", x.state(7) > 0);
        for (int p = 0; p < 3; p++) {
            CHECK.isTrue("pump " + p + " is short", x.pressure(p, 4) > 0);
        }
    }

    private static void nozzle() {
        FountainShow x = new FountainShow();
        for (int n = 0; n < 4; n++) {
            for (int s = 0; s < 6; s++) {
                String what = "nozzle " + n + " " + s;
                CHECK.due(what + " below", x.nozzle(n, s, NOZZLE_LEAST[s] - 1), -2);
                CHECK.due(what + " above", x.nozzle(n, s, NOZZLE_MOST[s] + 1), -2);
                for (int odd : ODD) {
                    CHECK.due(what + " " + odd, x.nozzle(n, s, odd), -2);
                }
                CHECK.due(what + " unchanged", x.spray(n, s), NOZZLE_INITIAL[s]);
                CHECK.due(what + " least", x.nozzle(n, s, NOZZLE_LEAST[s]), NOZZLE_INITIAL[s]);
                CHECK.due(what + " most", x.nozzle(n, s, NOZZLE_MOST[s]), NOZZLE_LEAST[s]);
                CHECK.due(what + " now", x.spray(n, s), NOZZLE_MOST[s]);
                for (int other = n + 1; other < 4; other++) {
                    CHECK.due(what + " not another's", x.spray(other, s), NOZZLE_INITIAL[s]);
                }
            }
        }
        CHECK.due("nozzle 4", x.nozzle(4, 0, 1), -1);
        CHECK.due("nozzle 4 first", x.nozzle(4, 9, 0), -1);
        for (int odd : ODD) {
            CHECK.due("nozzle " + odd, x.nozzle(odd, 0, 1), -1);
            CHECK.due("setting " + odd, x.nozzle(0, odd, 1), -2);
        }
        CHECK.due("setting 6", x.nozzle(0, 6, 1), -2);
        CHECK.due("setting -1 of nozzle 1", x.nozzle(1, -1, 1), -2);
        x.setUp(12);
        CHECK.due("nozzle 11", x.nozzle(11, 0, 5), 10);
        CHECK.due("nozzle 12", x.nozzle(12, 0, 5), -1);
    }

    private static void pump() {
        FountainShow x = new FountainShow();
        for (int p = 0; p < 3; p++) {
            for (int s = 0; s < 2; s++) {
                String what = "pump " + p + " " + s;
                CHECK.due(what + " below", x.pump(p, s, PUMP_LEAST[s] - 1), -2);
                CHECK.due(what + " above", x.pump(p, s, PUMP_MOST[s] + 1), -2);
                CHECK.due(what + " unchanged", x.pressure(p, s), PUMP_INITIAL[s]);
                CHECK.due(what + " least", x.pump(p, s, PUMP_LEAST[s]), PUMP_INITIAL[s]);
                CHECK.due(what + " most", x.pump(p, s, PUMP_MOST[s]), PUMP_LEAST[s]);
                CHECK.due(what + " now", x.pressure(p, s), PUMP_MOST[s]);
                for (int other = p + 1; other < 3; other++) {
                    CHECK.due(what + " not another's", x.pressure(other, s), PUMP_INITIAL[s]);
                }
            }
        }
        CHECK.due("pump 3", x.pump(3, 0, 1), -1);
        CHECK.due("pump 3 first", x.pump(3, 2, -1), -1);
        CHECK.due("pump setting 2", x.pump(0, 2, 1), -2);
        for (int odd : ODD) {
            CHECK.due("pump " + odd, x.pump(odd, 0, 1), -1);
            CHECK.due("pump setting " + odd, x.pump(1, odd, 1), -2);
            CHECK.due("pump value " + odd, x.pump(1, 0, odd), -2);
        }
    }

    private static void set() {
        FountainShow x = new FountainShow();
        for (int s = 0; s < 6; s++) {
            CHECK.due("set below " + s, x.set(s, SHOW_LEAST[s] - 1), -2);
            CHECK.due("set above " + s, x.set(s, SHOW_MOST[s] + 1), -2);
            CHECK.due("set unchanged " + s, x.state(10 + s), SHOW_INITIAL[s]);
            CHECK.due("set least " + s, x.set(s, SHOW_LEAST[s]), SHOW_INITIAL[s]);
            CHECK.due("set most " + s, x.set(s, SHOW_MOST[s]), SHOW_LEAST[s]);
            CHECK.due("set now " + s, x.state(10 + s), SHOW_MOST[s]);
        }
        CHECK.due("set 6", x.set(6, 1), -2);
        for (int odd : ODD) {
            CHECK.due("set " + odd, x.set(odd, 1), -2);
            CHECK.due("set to " + odd, x.set(3, odd), -2);
        }
    }

    private static void wind() {
        FountainShow x = new FountainShow();
        CHECK.due("wind 301", x.wind(301), -2);
        for (int odd : ODD) {
            CHECK.due("wind " + odd, x.wind(odd), -2);
        }
        CHECK.due("wind unchanged", x.state(3), 0);
        CHECK.due("wind 300", x.wind(300), 0);
        CHECK.due("wind 0", x.wind(0), 300);
        CHECK.due("wind 40", x.wind(40), 0);
        CHECK.due("wind now", x.state(3), 40);
        CHECK.due("not measured before a tick", x.state(4), 0);
        x.tick(1);
        // F = 0 + 40960 / 4 = 10240
        CHECK.due("measured", x.state(4), 10);
        x.tick(1);
        // F = 10240 + 30720 / 4 = 17920
        CHECK.due("measured then", x.state(4), 17);
    }
}

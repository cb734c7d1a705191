/** Promises 19 to 21: ahead, delay, safeCut. */
public final class WhatIfTest {
    private static final int[] ODD = {Integer.MIN_VALUE, -1, 0, Integer.MAX_VALUE};
    private static final Check CHECK = new Check();

    public static void main(String[] args) {
        aheadErrors();
        ahead();
        aheadOfPumps();
        aheadSeesThePast();
        aheadOfAll();
        delayErrors();
        delay();
        delayOrder();
        delayEnd();
        safeCutErrors();
        safeCut();
        safeCutOfNothing();
        safeCutIsNotMonotone();
        safeCutSkips();
        CHECK.end();
    }

    private static void aheadErrors() {
        FountainShow x = new FountainShow();
        for (int odd : ODD) {
            CHECK.due("ticks " + odd, x.ahead(odd, 0, 0), -2);
        }
        CHECK.due("ticks 1001", x.ahead(1001, 0, 0), -2);
        CHECK.due("ticks 1000", x.ahead(1000, 0, 0), 0);
        CHECK.due("what 5", x.ahead(1, 0, 5), -2);
        CHECK.due("what -1", x.ahead(1, 0, -1), -2);
        CHECK.due("what 5 before the pump", x.ahead(1, 3, 5), -2);
        CHECK.due("ticks before the pump", x.ahead(0, 3, 0), -2);
        for (int what = 0; what < 5; what++) {
            CHECK.due("pump 3 for " + what, x.ahead(1, 3, what), what < 3 ? -1 : 0);
            CHECK.due("pump -1 for " + what, x.ahead(1, -1, what), what < 3 ? -1 : 0);
            CHECK.due("pump greatest for " + what, x.ahead(1, Integer.MAX_VALUE, what), what < 3 ? -1 : 0);
            CHECK.due("pump least for " + what, x.ahead(1, Integer.MIN_VALUE, what), what < 3 ? -1 : 0);
        }
    }

    private static void ahead() {
        FountainShow x = Shows.quick(2);
        x.set(FountainShow.FILTER, 1);
        x.wind(70);
        x.set(FountainShow.SPLASH, 5);
        x.cue(2, 1, 1000);
        x.cue(3, 3, 800);
        x.cue(5, 3, 0);
        // demands: 0, 0, 10000, 16000, 16000, 0, ..
        CHECK.due("demand in 2", x.ahead(2, 0, 0), 0);
        CHECK.due("demand in 3", x.ahead(3, 0, 0), 10000);
        CHECK.due("demand in 4", x.ahead(4, 0, 0), 16000);
        CHECK.due("demand in 100", x.ahead(100, 0, 0), 16000);
        CHECK.due("not short", x.ahead(100, 0, 1), 0);
        CHECK.due("none is the first", x.ahead(100, 0, 2), -6);
        x.pump(0, FountainShow.CAPACITY, 10);
        CHECK.due("short", x.ahead(100, 0, 1), 2);
        CHECK.due("the first", x.ahead(100, 0, 2), 3);
        CHECK.due("not yet", x.ahead(3, 0, 2), -6);
        CHECK.due("just", x.ahead(4, 0, 2), 3);
        // drifts: 7 at 1000, with 500 (flow 5000 each): height 250, drift 1
        CHECK.due("wet", x.ahead(100, 9, 3), 1);
        CHECK.due("not wet yet", x.ahead(2, 9, 3), 0);
        CHECK.due("height", x.ahead(100, 9, 4), 1000);
        CHECK.due("time stays", x.state(0), 0);
        x.tick(3);
        CHECK.due("counted from the present", x.ahead(100, 0, 2), 0);
        CHECK.due("only these ticks", x.ahead(100, 0, 4), 250);
        x.tick(1);
        CHECK.due("those behind do not count", x.ahead(100, 0, 1), 1);
        CHECK.due("nor those that were wet", x.ahead(100, 0, 3), 0);
        CHECK.due("the time", x.state(0), 4);
        x.tick(3);
        CHECK.due("nor their demand", x.ahead(100, 0, 0), 0);
        CHECK.due("nor their height", x.ahead(100, 0, 4), 0);
    }

    private static void aheadOfPumps() {
        FountainShow x = Shows.quick(3);
        for (int i = 0; i < 3; i++) {
            x.nozzle(i, FountainShow.PUMP, i);
            x.pump(i, FountainShow.CAPACITY, i * 6);
        }
        x.cue(10, 7, 1000);
        CHECK.due("pump 0", x.ahead(15, 0, 1), 5);
        CHECK.due("pump 1", x.ahead(15, 1, 1), 5);
        CHECK.due("pump 2", x.ahead(15, 2, 1), 0);
        CHECK.due("first of pump 1", x.ahead(15, 1, 2), 10);
        CHECK.due("first of pump 2", x.ahead(15, 2, 2), -6);
        CHECK.due("demand of pump 2", x.ahead(15, 2, 0), 10000);
    }

    private static void aheadSeesThePast() {
        FountainShow x = new FountainShow();
        x.setUp(1);
        x.nozzle(0, FountainShow.LAG, 50);
        x.command(1, 1000);
        x.tick(30);
        x.command(1, 0);
        CHECK.due("lagging command, not yet", x.ahead(20, 0, 4), 0);
        CHECK.due("lagging command", x.ahead(21, 0, 4), 40);
        CHECK.due("twice the same", x.ahead(21, 0, 4), 40);
    }

    private static void delayErrors() {
        FountainShow x = new FountainShow();
        CHECK.due("no cue first", x.delay(0, 101, 0), -1);
        x.cue(0, 1, 1000);
        for (int odd : ODD) {
            CHECK.due("ticks " + odd, x.delay(0, 0, odd), -2);
            CHECK.due("cue " + odd, x.delay(odd, 0, 1), odd == 0 ? 0 : -1);
            CHECK.due("most " + odd, x.delay(0, odd, 1), odd == 0 ? 0 : -2);
        }
        CHECK.due("cue 1", x.delay(1, 0, 1), -1);
        CHECK.due("most 101", x.delay(0, 101, 1), -2);
        CHECK.due("ticks 301", x.delay(0, 0, 301), -2);
        CHECK.due("most 100, ticks 300", x.delay(0, 100, 300), 0);
    }

    private static void delay() {
        FountainShow x = Shows.quick(2);
        x.pump(0, FountainShow.CAPACITY, 10);
        x.cue(5, 1, 1000);
        x.cue(8, 1, 0);
        x.cue(6, 2, 1000);
        CHECK.due("no delay for what is far", x.delay(1, 0, 6), 0);
        CHECK.due("until the other is off", x.delay(1, 100, 300), 2);
        CHECK.due("just enough", x.delay(1, 2, 300), 2);
        CHECK.due("not enough", x.delay(1, 1, 300), -6);
        CHECK.due("out of sight", x.delay(1, 100, 8), 2);
        CHECK.due("out of sight at once", x.delay(1, 100, 7), 1);
        CHECK.due("the other one", x.delay(0, 100, 300), -6);
        CHECK.due("the cue stays", x.part(1, 0), 6);
        x.nozzle(1, FountainShow.PUMP, 2);
        CHECK.due("another pump", x.delay(1, 100, 300), 0);
        x.pump(2, FountainShow.CAPACITY, 9);
        CHECK.due("each pump counts", x.delay(1, 5, 300), -6);
        CHECK.due("each pump counts for a passing cue", x.delay(0, 5, 300), -6);
    }

    private static void delayOrder() {
        FountainShow x = Shows.quick(1);
        x.pump(0, FountainShow.CAPACITY, 5);
        x.cue(5, 1, 1000);
        x.cue(5, 1, 400);
        // In its place the first one is overruled; by 0 it comes behind the other one.
        CHECK.due("as it is", x.ahead(20, 0, 1), 0);
        CHECK.due("by 0, behind", x.delay(0, 0, 20), -6);
        CHECK.due("by 0, the other", x.delay(1, 0, 20), 0);
        x.cue(7, 1, 300);
        CHECK.due("out of the ticks", x.delay(0, 100, 7), 2);
        CHECK.due("order stays", x.part(0, 2), 1000);
    }

    private static void delayEnd() {
        FountainShow x = Shows.quick(1);
        x.pump(0, FountainShow.CAPACITY, 0);
        for (int i = 0; i < 49; i++) {
            x.tick(2000);
        }
        x.tick(1900);
        x.cue(99990, 1, 1000);
        x.cue(99990, 1, 0);
        CHECK.due("in sight", x.delay(0, 5, 100), -6);
        CHECK.due("times above 100000 are none", x.delay(0, 100, 110), -6);
        CHECK.due("up to 100000", x.delay(0, 100, 100), 10);
        CHECK.due("most is less", x.delay(0, 9, 100), -6);
        x.tick(105);
        CHECK.due("a passed cue", x.delay(0, 100, 300), 0);
    }

    private static void safeCutErrors() {
        FountainShow x = new FountainShow();
        for (int odd : ODD) {
            CHECK.due("ticks " + odd, x.safeCut(odd), -2);
        }
        CHECK.due("ticks 101", x.safeCut(101), -2);
        CHECK.due("ticks 100", x.safeCut(100), 1000);
    }

    private static void safeCut() {
        FountainShow x = Shows.quick(1);
        x.set(FountainShow.FILTER, 1);
        x.set(FountainShow.SPLASH, 4);
        x.wind(100);
        x.command(1, 1000);
        // drift = height / 100 > 4 from the height 500 on, v = 708 (501.264)
        CHECK.due("stage 1", x.safeCut(5), 707);
        CHECK.due("CUT stays", x.state(13), 500);
        x.set(FountainShow.CUT, 20);
        CHECK.due("of the present CUT it does not depend", x.safeCut(5), 707);
        x.set(FountainShow.CUT, 707);
        x.tick(5);
        CHECK.due("dry with it", x.state(7), 0);
        x.set(FountainShow.CUT, 708);
        x.tick(1);
        CHECK.due("wet with more", x.state(7), 1);
        CHECK.due("what was wet does not count", x.safeCut(5), 707);
        x.nozzle(0, FountainShow.SPEED, 1);
        CHECK.due("closing lasts", x.safeCut(1), 707);
        x.set(FountainShow.CUT, 800);
        x.nozzle(0, FountainShow.SPEED, 1000);
        x.tick(1);
        x.nozzle(0, FountainShow.SPEED, 90);
        CHECK.due("too slow", x.safeCut(1), -6);
        x.set(FountainShow.SPLASH, 5000);
        CHECK.due("never wet", x.safeCut(100), 1000);
        FountainShow y = Shows.quick(1);
        y.set(FountainShow.SPLASH, 0);
        y.set(FountainShow.FILTER, 1);
        y.wind(70);
        y.command(1, 1000);
        CHECK.due("no stage, no help", y.safeCut(100), -6);
        y.wind(0);
        CHECK.due("no stage, none needed", y.safeCut(100), 1000);
        FountainShow z = Shows.quick(1);
        z.set(FountainShow.SPLASH, 0);
        z.set(FountainShow.FILTER, 1);
        z.nozzle(0, FountainShow.HEIGHT, 5000);
        z.nozzle(0, FountainShow.DRIFT, 100);
        z.nozzle(0, FountainShow.SIZE, 100);
        z.wind(140);
        z.command(1, 1000);
        // drift = height * 14 / 100 > 0 from the height 8 on, v = 40
        CHECK.due("a small CUT", z.safeCut(100), 39);
        z.nozzle(0, FountainShow.SPEED, 961);
        z.tick(1);
        CHECK.due("is closed for the tick behind", z.safeCut(100), 39);
        z.set(FountainShow.CUT, 1000);
        z.tick(1);
        CHECK.due("just closes to 39", z.safeCut(1), 39);
        z.nozzle(0, FountainShow.SPEED, 960);
        CHECK.due("does not close to 39", z.safeCut(1), -6);
    }

    /** The stage 1 ends in the second tick; the nozzle opens from the CUT by its speed, and 999 is the most. */
    private static void safeCutOfNothing() {
        FountainShow x = Shows.quick(1);
        x.set(FountainShow.FILTER, 1);
        x.set(FountainShow.HOLD, 2);
        x.nozzle(0, FountainShow.HEIGHT, 5000);
        x.nozzle(0, FountainShow.DRIFT, 100);
        x.nozzle(0, FountainShow.SPEED, 999);
        x.set(FountainShow.SPLASH, 299);
        x.wind(80);
        x.tick(1);
        x.wind(60);
        x.command(1, 1000);
        CHECK.due("not in the first tick", x.safeCut(1), 1000);
        CHECK.due("nothing is safe", x.safeCut(2), 0);
        CHECK.due("not for long", x.safeCut(3), -6);
        x.nozzle(0, FountainShow.SPEED, 998);
        CHECK.due("1 is safe", x.safeCut(2), 1);
        x.nozzle(0, FountainShow.SPEED, 1000);
        CHECK.due("nothing is not safe", x.safeCut(2), -6);
    }

    /** The height of the last of twelve nozzles. */
    private static void aheadOfAll() {
        FountainShow x = Shows.quick(12);
        x.cue(1, 2048, 1000);
        CHECK.due("the last nozzle", x.ahead(2, 0, 4), 1000);
        CHECK.due("its demand", x.ahead(2, 0, 0), 10000);
    }

    /** Two nozzles share a pump: a lesser CUT for the one leaves more for the other one, which is not cut by it. */
    private static void safeCutIsNotMonotone() {
        FountainShow x = Shows.quick(2);
        x.set(FountainShow.FILTER, 1);
        x.set(FountainShow.SPLASH, 24);
        x.wind(100);
        x.pump(0, FountainShow.CAPACITY, 6);
        x.nozzle(0, FountainShow.DRIFT, 0);
        x.nozzle(1, FountainShow.DRIFT, 100);
        x.nozzle(1, FountainShow.HEIGHT, 5000);
        x.command(1, 1000);
        x.command(2, 500);
        // With the CUT c, from 500 on, nozzle 1 has the flow 3000000 / (c + 500), and the drift v * v / 2000:
        // 20 with c = 1000 (v = 200), 24 with c = 840 (v = 223), 25 with c = 839 (v = 224), 45 with c = 500.
        CHECK.due("the greatest is safe", x.safeCut(5), 1000);
        wetWith(x, 840, 0);
        wetWith(x, 839, 1);
        wetWith(x, 500, 1);
        wetWith(x, 223, 0);
        // Nozzle 0 has the flow 6000 * c / (c + 500); its height is 249 with c = 901 (v = 385), 250 with c = 902.
        x.nozzle(0, FountainShow.DRIFT, 100);
        x.nozzle(0, FountainShow.HEIGHT, 1680);
        CHECK.due("safe between", x.safeCut(5), 901);
        wetWith(x, 902, 1);
        wetWith(x, 901, 0);
        wetWith(x, 839, 1);
        x.set(FountainShow.SPLASH, 0);
        // drift = height / 10 of nozzle 1, above 0 from the height 10 on, v = 45
        CHECK.due("nearly closed", x.safeCut(5), 44);
    }

    private static void wetWith(FountainShow x, int cut, int want) {
        x.save(0);
        x.set(FountainShow.CUT, cut);
        CHECK.due("wet with " + cut, x.ahead(1, 0, 3), want);
        x.restore(0);
    }

    /** The goals that are not beyond a CUT do not feel it; what they do later counts all the same. */
    private static void safeCutSkips() {
        FountainShow x = Shows.quick(2);
        x.set(FountainShow.FILTER, 1);
        x.set(FountainShow.SPLASH, 3);
        x.wind(100);
        x.command(1, 300);
        x.cue(40, 1, 600);
        x.cue(60, 1, 900);
        // drift = height / 100 > 3 from the height 400 on, v = 633 (400.689)
        CHECK.due("before the last", x.safeCut(60), 1000);
        CHECK.due("with the last", x.safeCut(61), 632);
        x.set(FountainShow.SPLASH, 2);
        // from the height 300 on, v = 548 (300.304)
        CHECK.due("before the second", x.safeCut(40), 1000);
        CHECK.due("with the second", x.safeCut(41), 547);
        CHECK.due("with both", x.safeCut(100), 547);
        x.set(FountainShow.FIRST, 101);
        CHECK.due("no stage", x.safeCut(41), -6);
        CHECK.due("no stage, not yet", x.safeCut(40), 1000);
    }
}

import java.util.Random;

/**
 * Promises 19 to 21 in shows drawn by a fixed seed, whose stages come and go and whose pumps are scarce: each answer
 * must be that of the model, and must hold when the show is played on.
 */
public final class WhatIfRunsTest {
    private static final int SHOWS = 1500;
    private static final Check CHECK = new Check();

    private static int cutsBetween = 0;
    private static int cutsInStageTwo = 0;
    private static int delaysBetween = 0;

    private final Random random;
    private final String show;
    private final FountainShow real = new FountainShow();
    private final Model model = new Model();

    private WhatIfRunsTest(int seed) {
        random = new Random(seed);
        show = "show " + seed + " ";
    }

    public static void main(String[] args) {
        int shows = Integer.getInteger("runs", SHOWS);
        int first = Integer.getInteger("first", 1);
        for (int seed = first; seed < first + shows && !CHECK.failed(); seed++) {
            new WhatIfRunsTest(seed).go();
        }
        if (shows >= SHOWS) {
            tellsEnough();
        }
        CHECK.end();
    }

    /** Answers that come from one end of their range alone would tell little. */
    private static void tellsEnough() {
        CHECK.isTrue("CUTs between 0 and 1000 are among them: " + cutsBetween, cutsBetween > 100);
        CHECK.isTrue("so are those told in the stage 2: " + cutsInStageTwo, cutsInStageTwo > 20);
        CHECK.isTrue("and delays between 0 and the greatest: " + delaysBetween, delaysBetween > 30);
    }

    private void go() {
        int nozzles = from(1, 4);
        prepare(nozzles);
        addCues(nozzles);
        for (int i = 0; i < 4; i++) {
            wind();
            int ticks = from(1, 8);
            due("tick", real.tick(ticks), model.tick(ticks));
            wind();
            ask();
        }
    }

    private void prepare(int nozzles) {
        due("setUp", real.setUp(nozzles), model.setUp(nozzles));
        for (int n = 0; n < nozzles; n++) {
            int[] settings = {from(1, 12), from(500, 5000), from(0, 3), from(100, 1000), from(0, 1), from(0, 100)};
            for (int s = 0; s < 6; s++) {
                due("nozzle", real.nozzle(n, s, settings[s]), model.nozzle(n, s, settings[s]));
            }
        }
        for (int p = 0; p < 2; p++) {
            pump(p, FountainShow.CAPACITY, from(5, 25));
            pump(p, FountainShow.RISE, from(5, 30));
        }
        int[] settings = {from(1, 4), from(20, 60), from(60, 110), from(0, 1000), from(0, 6), from(0, 400)};
        for (int s = 0; s < 6; s++) {
            due("set", real.set(s, settings[s]), model.set(s, settings[s]));
        }
    }

    private void addCues(int nozzles) {
        for (int c = from(1, 8); c > 0; c--) {
            int time = from(0, 30);
            int set = from(1, (1 << nozzles) - 1);
            int value = random.nextInt(4) == 0 ? 0 : from(100, 1000);
            due("cue", real.cue(time, set, value), model.cue(time, set, value));
        }
    }

    private void wind() {
        int wind = from(0, 130);
        due("wind", real.wind(wind), model.wind(wind));
    }

    private int from(int least, int most) {
        return least + random.nextInt(most - least + 1);
    }

    private void pump(int pump, int setting, int value) {
        due("pump", real.pump(pump, setting, value), model.pump(pump, setting, value));
    }

    private void due(String what, int got, int want) {
        CHECK.due(show + what, got, want);
    }

    private void ask() {
        int ticks = from(1, 40);
        for (int what = 0; what < 5; what++) {
            int pump = from(0, 2);
            due("ahead " + ticks + " " + what, real.ahead(ticks, pump, what), model.ahead(ticks, pump, what));
        }
        askSafeCut(ticks);
        askDelay(ticks);
    }

    private void askSafeCut(int ticks) {
        int cut = real.safeCut(ticks);
        due("safeCut " + ticks, cut, model.safeCut(ticks));
        if (cut == FountainShow.NONE) {
            return;
        }
        cutsBetween += cut > 0 && cut < 1000 ? 1 : 0;
        cutsInStageTwo += cut > 0 && cut < 1000 && real.state(5) == 2 ? 1 : 0;
        real.save(0);
        int wet = real.state(7);
        real.set(FountainShow.CUT, cut);
        real.tick(ticks);
        due("dry with " + cut + " for " + ticks, real.state(7), wet);
        real.restore(0);
    }

    private void askDelay(int ticks) {
        int cue = from(0, real.state(2) - 1);
        int most = from(0, 30);
        int delay = real.delay(cue, most, ticks);
        due("delay " + cue + " " + most + " " + ticks, delay, model.delay(cue, most, ticks));
        if (delay == FountainShow.NONE) {
            return;
        }
        delaysBetween += delay > 0 && delay < most ? 1 : 0;
        real.save(1);
        int shorts = shorts();
        real.move(cue, delay);
        real.tick(ticks);
        due("supplied with " + delay + " for " + ticks, shorts(), shorts);
        real.restore(1);
    }

    private int shorts() {
        return real.pressure(0, 4) + real.pressure(1, 4) + real.pressure(2, 4);
    }
}

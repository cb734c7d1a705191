/**
 * "A method that fails returns one of the error codes .. and changes nothing; it names its errors in the order in which
 * they are checked, and the first that applies is returned. NONE is not an error; it is returned only if no error
 * applies." Each error of each method, in a show in which nothing is as initially; then each pair of errors.
 */
public final class RefusedTest {
    private static final int NO_SUCH = FountainShow.NO_SUCH;
    private static final int BAD_VALUE = FountainShow.BAD_VALUE;
    private static final int BAD_TEXT = FountainShow.BAD_TEXT;
    private static final int TOO_MANY = FountainShow.TOO_MANY;
    private static final int NOT_POSSIBLE = FountainShow.NOT_POSSIBLE;
    private static final Check CHECK = new Check();
    private static final Edges EDGES = new Edges(CHECK);

    public static void main(String[] args) {
        codes();
        settings();
        cues();
        time();
        asks();
        whatIf();
        texts();
        slots();
        orderOfSettings();
        orderOfCues();
        orderOfTime();
        orderOfAsks();
        orderOfWhatIf();
        orderOfTexts();
        orderOfSlots();
        noneOnlyWithoutError();
        CHECK.end();
    }

    private static void refused(String what, int error, Edges.Call call) {
        EDGES.refused(what, error, Shows::busy, call);
    }

    private static void outside(String what, int least, int most, int error, Edges.Given call) {
        EDGES.refusedOutside(what, least, most, error, Shows::busy, call);
    }

    private static FountainShow full() {
        return Shows.withCues(60);
    }

    private static FountainShow fullPad() {
        FountainShow x = Shows.busy();
        Shows.write(x, "0:a=0,1:b=1,2:c=2,3:d=3,4:e=4,5:f=5,6:g=6,7:h=7,8:i=8,9:j=9,10:k=10,9999:kl=1000");
        return x;
    }

    private static FountainShow saying(String text) {
        FountainShow x = Shows.busy();
        Shows.write(x, text);
        return x;
    }

    private static FountainShow fullSaying(String text) {
        FountainShow x = full();
        Shows.write(x, text);
        return x;
    }

    private static void codes() {
        CHECK.due("NO_SUCH", NO_SUCH, -1);
        CHECK.due("BAD_VALUE", BAD_VALUE, -2);
        CHECK.due("BAD_TEXT", BAD_TEXT, -3);
        CHECK.due("TOO_MANY", TOO_MANY, -4);
        CHECK.due("NOT_POSSIBLE", NOT_POSSIBLE, -5);
        CHECK.due("NONE", FountainShow.NONE, -6);
    }

    private static void settings() {
        outside("setUp", 1, 12, BAD_VALUE, (x, v) -> x.setUp(v));
        outside("nozzle", 0, 4, NO_SUCH, (x, v) -> x.nozzle(v, FountainShow.LAG, 1));
        outside("setting of a nozzle", 0, 5, BAD_VALUE, (x, v) -> x.nozzle(4, v, 1));
        outside("value for a nozzle", 1, 100, BAD_VALUE, (x, v) -> x.nozzle(4, FountainShow.SIZE, v));
        outside("pump", 0, 2, NO_SUCH, (x, v) -> x.pump(v, FountainShow.RISE, 1));
        outside("setting of a pump", 0, 1, BAD_VALUE, (x, v) -> x.pump(2, v, 1));
        outside("value for a pump", 1, 500, BAD_VALUE, (x, v) -> x.pump(2, FountainShow.RISE, v));
        outside("setting", 0, 5, BAD_VALUE, (x, v) -> x.set(v, 1));
        outside("value of a setting", 1, 64, BAD_VALUE, (x, v) -> x.set(FountainShow.FILTER, v));
        outside("wind", 0, 300, BAD_VALUE, (x, v) -> x.wind(v));
    }

    private static void cues() {
        outside("time of a cue", 0, 100000, BAD_VALUE, (x, v) -> x.cue(v, 1, 5));
        outside("set of a cue", 1, 4095, BAD_VALUE, (x, v) -> x.cue(51, v, 5));
        outside("value of a cue", 0, 1000, BAD_VALUE, (x, v) -> x.cue(51, 1, v));
        EDGES.refused("a cue behind 60", TOO_MANY, RefusedTest::full, x -> x.cue(20, 1, 5));
        outside("remove", 0, 7, NO_SUCH, (x, v) -> x.remove(v));
        outside("cue to move", 0, 7, NO_SUCH, (x, v) -> x.move(v, 1));
        outside("by", -100000, 100000, BAD_VALUE, (x, v) -> x.move(0, v));
        refused("move below 0", BAD_VALUE, x -> x.move(7, -57));
        refused("move beyond 100000", BAD_VALUE, x -> x.move(7, 99945));
        outside("cue to ask for", 0, 7, NO_SUCH, (x, v) -> x.part(v, 0));
        outside("part", 0, 2, BAD_VALUE, (x, v) -> x.part(7, v));
    }

    private static void time() {
        outside("set of a command", 1, 4095, BAD_VALUE, (x, v) -> x.command(v, 5));
        outside("value of a command", 0, 1000, BAD_VALUE, (x, v) -> x.command(1, v));
        outside("ticks", 1, 2000, BAD_VALUE, (x, v) -> x.tick(v));
        EDGES.refused("a tick beyond 200000", NOT_POSSIBLE, () -> Shows.at(200000), x -> x.tick(1));
        EDGES.refused("some ticks beyond 200000", NOT_POSSIBLE, () -> Shows.at(199999), x -> x.tick(2));
    }

    private static void asks() {
        outside("nozzle to ask for", 0, 4, NO_SUCH, (x, v) -> x.spray(v, 0));
        outside("what of a nozzle", 0, 11, BAD_VALUE, (x, v) -> x.spray(4, v));
        outside("pump to ask for", 0, 2, NO_SUCH, (x, v) -> x.pressure(v, 0));
        outside("what of a pump", 0, 4, BAD_VALUE, (x, v) -> x.pressure(2, v));
        outside("load of", 0, 2, -1, (x, v) -> (int) x.load(v));
        outside("state", 0, 15, BAD_VALUE, (x, v) -> x.state(v));
    }

    private static void whatIf() {
        outside("ticks ahead", 1, 1000, BAD_VALUE, (x, v) -> x.ahead(v, 0, 0));
        outside("what ahead", 0, 4, BAD_VALUE, (x, v) -> x.ahead(1, 0, v));
        for (int what = 0; what < 3; what++) {
            int asked = what;
            outside("pump ahead for " + what, 0, 2, NO_SUCH, (x, v) -> x.ahead(1, v, asked));
        }
        outside("cue to delay", 0, 7, NO_SUCH, (x, v) -> x.delay(v, 1, 1));
        outside("most", 0, 100, BAD_VALUE, (x, v) -> x.delay(7, v, 1));
        outside("ticks of a delay", 1, 300, BAD_VALUE, (x, v) -> x.delay(7, 1, v));
        outside("ticks of safeCut", 1, 100, BAD_VALUE, (x, v) -> x.safeCut(v));
    }

    private static void texts() {
        outside("say", 33, 126, BAD_VALUE, (x, v) -> x.say(v));
        EDGES.refused("say the 81st", TOO_MANY, RefusedTest::fullPad, x -> x.say('0'));
        refused("read a text that is not complete", BAD_TEXT, x -> x.read(0));
        EDGES.refused("read no text", BAD_TEXT, () -> saying(""), x -> x.read(0));
        EDGES.refused("read a wrong text", BAD_TEXT, () -> saying("1:a=0;"), x -> x.read(0));
        EDGES.refusedOutside("later", 0, 90000, BAD_VALUE, () -> saying("1:a=5"), (x, v) -> x.read(v));
        EDGES.refused("read the 61st", TOO_MANY, () -> fullSaying("1:a=5"), x -> x.read(0));
    }

    private static void slots() {
        outside("save", 0, 1, BAD_VALUE, (x, v) -> x.save(v));
        outside("restore", 0, 1, BAD_VALUE, (x, v) -> x.restore(v));
        refused("restore an empty slot", NOT_POSSIBLE, x -> x.restore(1));
    }

    private static void orderOfSettings() {
        refused("nozzle before setting", NO_SUCH, x -> x.nozzle(5, 6, 1));
        refused("nozzle before value", NO_SUCH, x -> x.nozzle(-1, FountainShow.SIZE, 0));
        refused("pump before setting", NO_SUCH, x -> x.pump(3, 2, 1));
        refused("pump before value", NO_SUCH, x -> x.pump(-1, FountainShow.RISE, 0));
    }

    private static void orderOfCues() {
        EDGES.refused("time before too many", BAD_VALUE, RefusedTest::full, x -> x.cue(100001, 1, 0));
        EDGES.refused("set before too many", BAD_VALUE, RefusedTest::full, x -> x.cue(0, 4096, 0));
        EDGES.refused("value before too many", BAD_VALUE, RefusedTest::full, x -> x.cue(0, 1, 1001));
        refused("cue before by", NO_SUCH, x -> x.move(8, 100001));
        refused("cue before part", NO_SUCH, x -> x.part(8, 3));
    }

    private static void orderOfTime() {
        EDGES.refused("ticks before time", BAD_VALUE, () -> Shows.at(200000), x -> x.tick(2001));
        EDGES.refused("no ticks before time", BAD_VALUE, () -> Shows.at(200000), x -> x.tick(0));
    }

    private static void orderOfAsks() {
        refused("nozzle before what", NO_SUCH, x -> x.spray(5, 12));
        refused("pump before what", NO_SUCH, x -> x.pressure(3, 5));
    }

    private static void orderOfWhatIf() {
        refused("ticks before pump", BAD_VALUE, x -> x.ahead(0, 3, 0));
        refused("many ticks before pump", BAD_VALUE, x -> x.ahead(1001, -1, 2));
        refused("what before pump", BAD_VALUE, x -> x.ahead(1, 3, 5));
        refused("what below 0 before pump", BAD_VALUE, x -> x.ahead(1, 3, -1));
        refused("cue before most", NO_SUCH, x -> x.delay(8, 101, 1));
        refused("cue before ticks", NO_SUCH, x -> x.delay(-1, 1, 301));
    }

    private static void orderOfTexts() {
        EDGES.refused("character before too many", BAD_VALUE, RefusedTest::fullPad, x -> x.say(127));
        refused("text before later", BAD_TEXT, x -> x.read(-1));
        EDGES.refused("text before too many", BAD_TEXT, () -> fullSaying("1:a=5,"), x -> x.read(0));
        EDGES.refused("no text before too many", BAD_TEXT, RefusedTest::full, x -> x.read(0));
        EDGES.refused("later before too many", BAD_VALUE, () -> fullSaying("1:a=5"), x -> x.read(90001));
    }

    private static void orderOfSlots() {
        EDGES.refused("slot before what was saved", BAD_VALUE, FountainShow::new, x -> x.restore(2));
        EDGES.refused("slot below 0 before what was saved", BAD_VALUE, FountainShow::new, x -> x.restore(-1));
    }

    /** Each call would answer NONE, but for its error. */
    private static void noneOnlyWithoutError() {
        FountainShow x = Shows.quick(1);
        x.pump(0, FountainShow.CAPACITY, 0);
        x.set(FountainShow.SPLASH, 0);
        x.set(FountainShow.FILTER, 1);
        x.wind(50);
        x.cue(0, 1, 1000);
        CHECK.due("none ahead", x.ahead(1, 2, 2), FountainShow.NONE);
        CHECK.due("none ahead, no such pump", x.ahead(1, 3, 2), NO_SUCH);
        CHECK.due("no delay", x.delay(0, 0, 1), FountainShow.NONE);
        CHECK.due("no delay of no cue", x.delay(1, 0, 1), NO_SUCH);
        CHECK.due("no delay in so many ticks", x.delay(0, 0, 301), BAD_VALUE);
        x.pump(0, FountainShow.CAPACITY, 100);
        CHECK.due("no safe CUT", x.safeCut(1), FountainShow.NONE);
        CHECK.due("no safe CUT in so many ticks", x.safeCut(101), BAD_VALUE);
    }
}

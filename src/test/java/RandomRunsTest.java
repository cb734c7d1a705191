import java.util.Random;

/** Runs of calls drawn by a fixed seed: each answer must be that of the model. */
public final class RandomRunsTest {
    private static final int RUNS = 2000;
    /** An object is used for at most 512 calls; one step makes at most some forty of them. */
    private static final int CALLS = 470;
    private static final int[] NOZZLE_MOST = {100, 5000, 50, 1000, 2, 100};
    private static final int[] PUMP_MOST = {2000, 500};
    private static final int[] SHOW_MOST = {64, 300, 300, 1000, 600, 5000};
    private static final int[] ODD = {Integer.MIN_VALUE, -100001, -1, 0, 1, 2, 1000, 1001, 4096, 100001, Integer.MAX_VALUE};
    private static final Check CHECK = new Check();

    private final Random random;
    private final String run;
    /** How wild the run is: one of so many numbers is an odd one. */
    private final int wild;
    private final FountainShow real = new FountainShow();
    private final Model model = new Model();
    private int calls = 0;

    private RandomRunsTest(int seed) {
        random = new Random(seed);
        run = "run " + seed + " ";
        wild = 30 + random.nextInt(300);
    }

    public static void main(String[] args) {
        int runs = Integer.getInteger("runs", RUNS);
        int first = Integer.getInteger("first", 1);
        for (int seed = first; seed < first + runs && !CHECK.failed(); seed++) {
            new RandomRunsTest(seed).go();
        }
        CHECK.end();
    }

    private void go() {
        for (int i = 0; calls < CALLS && !CHECK.failed(); i++) {
            step(random.nextInt(100), run + "step " + i + " ");
        }
    }

    private void due(String what, double got, double want) {
        calls++;
        CHECK.due(what, got, want);
    }

    private int state(int what) {
        calls++;
        return real.state(what);
    }

    private int upTo(int most) {
        return from(0, most);
    }

    private int from(int least, int most) {
        if (random.nextInt(wild) == 0) {
            return ODD[random.nextInt(ODD.length)];
        }
        if (random.nextInt(12) == 0) {
            return random.nextBoolean() ? least - random.nextInt(2) : most + random.nextInt(2);
        }
        return least + random.nextInt(most - least + 1);
    }

    private int soon() {
        return random.nextInt(15) == 0 ? upTo(100000) : state(0) + from(0, 40);
    }

    private int ofNozzle(int setting) {
        int most = setting >= 0 && setting < 6 ? NOZZLE_MOST[setting] : 10;
        return setting == 2 && random.nextInt(3) > 0 ? upTo(4) : setting == 4 ? upTo(2) : from(most / 3, most);
    }

    private int ofShow(int setting) {
        int most = setting >= 0 && setting < 6 ? SHOW_MOST[setting] : 10;
        switch (setting) {
            case 0: return from(1, random.nextBoolean() ? 4 : most);
            case 1: return from(0, 120);
            case 2: return random.nextInt(3) > 0 ? from(90, 300) : upTo(300);
            case 4: return from(0, random.nextBoolean() ? 5 : most);
            case 5: return from(0, random.nextBoolean() ? 100 : most);
            default: return upTo(most);
        }
    }

    private void step(int kind, String at) {
        if (kind < 45) {
            change(kind, at);
        } else if (kind < 60) {
            time(kind, at);
        } else if (kind < 72) {
            whatIf(kind, at);
        } else if (kind < 84) {
            text(kind, at);
        } else {
            ask(kind, at);
        }
    }

    private void change(int kind, String at) {
        int a = upTo(4);
        int b;
        int c;
        if (kind < 1) {
            a = from(1, 12);
            due(at + "setUp " + a, real.setUp(a), model.setUp(a));
        } else if (kind < 12) {
            a = upTo(random.nextBoolean() ? 3 : state(1));
            b = upTo(5);
            c = ofNozzle(b);
            due(at + "nozzle " + a + " " + b + " " + c, real.nozzle(a, b, c), model.nozzle(a, b, c));
        } else if (kind < 17) {
            a = upTo(2);
            b = upTo(1);
            c = random.nextInt(4) > 0 ? upTo(60) : upTo(b == 0 || b == 1 ? PUMP_MOST[b] : 10);
            due(at + "pump " + a + " " + b + " " + c, real.pump(a, b, c), model.pump(a, b, c));
        } else if (kind < 22) {
            a = upTo(5);
            b = ofShow(a);
            due(at + "set " + a + " " + b, real.set(a, b), model.set(a, b));
        } else if (kind < 27) {
            a = upTo(random.nextBoolean() ? 140 : 300);
            due(at + "wind " + a, real.wind(a), model.wind(a));
        } else if (kind < 37) {
            a = soon();
            b = from(1, random.nextBoolean() ? 15 : 4095);
            c = upTo(1000);
            due(at + "cue " + a + " " + b + " " + c, real.cue(a, b, c), model.cue(a, b, c));
        } else if (kind < 40) {
            a = upTo(Math.max(0, state(2) - 1));
            due(at + "remove " + a, real.remove(a), model.remove(a));
        } else if (kind < 44) {
            a = upTo(Math.max(0, state(2) - 1));
            b = random.nextInt(8) == 0 ? from(-100000, 100000) : from(-9, 9);
            due(at + "move " + a + " " + b, real.move(a, b), model.move(a, b));
        } else {
            a = upTo(1);
            if (random.nextBoolean()) {
                due(at + "save " + a, real.save(a), model.save(a));
            } else {
                due(at + "restore " + a, real.restore(a), model.restore(a));
            }
        }
    }

    private void time(int kind, String at) {
        if (kind < 49) {
            int a = from(1, random.nextBoolean() ? 15 : 4095);
            int b = upTo(1000);
            due(at + "command " + a + " " + b, real.command(a, b), model.command(a, b));
        } else if (kind < 59) {
            int a = random.nextInt(20) == 0 ? from(1, 300) : from(1, 12);
            due(at + "tick " + a, real.tick(a), model.tick(a));
        } else if (random.nextInt(3) == 0) {
            due(at + "rewind", real.rewind(), model.rewind());
        }
    }

    private void whatIf(int kind, String at) {
        if (kind < 66) {
            int a = from(1, random.nextInt(10) == 0 ? 1000 : 60);
            int b = upTo(2);
            int c = upTo(4);
            due(at + "ahead " + a + " " + b + " " + c, real.ahead(a, b, c), model.ahead(a, b, c));
        } else if (kind < 70) {
            int a = upTo(Math.max(0, state(2) - 1));
            int b = upTo(random.nextInt(10) == 0 ? 100 : 20);
            int c = from(1, random.nextInt(10) == 0 ? 300 : 40);
            due(at + "delay " + a + " " + b + " " + c, real.delay(a, b, c), model.delay(a, b, c));
        } else if (random.nextInt(3) == 0) {
            int a = from(1, random.nextInt(10) == 0 ? 100 : 30);
            due(at + "safeCut " + a, real.safeCut(a), model.safeCut(a));
        }
    }

    private void text(int kind, String at) {
        if (kind < 75) {
            String cue = (state(9) > 0 ? "," : "") + number(9999) + ":" + letters() + "=" + number(1000);
            for (int i = 0; i < cue.length(); i++) {
                say(at, cue.charAt(i));
            }
        } else if (kind < 76) {
            say(at, random.nextInt(3) == 0 ? from(33, 126) : "0123456789:=,abcdefghijklm".charAt(random.nextInt(26)));
        } else if (kind < 79) {
            due(at + "fault", real.fault(), model.fault());
        } else if (kind < 83) {
            int a = random.nextBoolean() ? soon() : upTo(90000);
            due(at + "read " + a, real.read(a), model.read(a));
        } else {
            due(at + "wipe", real.wipe(), model.wipe());
        }
    }

    private void say(String at, int character) {
        due(at + "say " + character, real.say(character), model.say(character));
    }

    private String number(int most) {
        int digits = random.nextInt(30) == 0 ? random.nextInt(most * 11) : random.nextInt(random.nextBoolean() ? 40 : most + 1);
        return (random.nextInt(40) == 0 ? "0" : "") + digits;
    }

    private String letters() {
        StringBuilder letters = new StringBuilder();
        for (char letter = 'a'; letter <= 'l'; letter++) {
            if (random.nextInt(4) == 0) {
                letters.append(letter);
            }
        }
        if (random.nextInt(40) == 0) {
            letters.append((char) ('a' + random.nextInt(13)));
        }
        return letters.length() == 0 && random.nextInt(20) > 0 ? "f" : letters.toString();
    }

    private void ask(int kind, String at) {
        if (kind < 97) {
            int a = upTo(3);
            for (int what = 0; what < 3; what++) {
                due(at + "part " + a + " " + what, real.part(a, what), model.part(a, what));
            }
            for (int what = 0; what < 5; what++) {
                due(at + "pressure " + a + " " + what, real.pressure(a, what), model.pressure(a, what));
            }
            a = upTo(11);
            for (int what = 6; what < 12; what++) {
                due(at + "spray " + a + " " + what, real.spray(a, what), model.spray(a, what));
            }
            for (int what = 0; what < 10; what++) {
                due(at + "state " + what, real.state(what), model.state(what));
            }
        }
        int a = upTo(3);
        due(at + "load " + a, real.load(a), model.load(a));
        due(at + "meanHeight", real.meanHeight(), model.meanHeight());
        int b = upTo(12);
        due(at + "spray " + a + " " + b, real.spray(a, b), model.spray(a, b));
        due(at + "pressure " + a + " " + b, real.pressure(a, b), model.pressure(a, b));
        due(at + "state " + b, real.state(b), model.state(b));
        due(at + "part " + b + " " + a, real.part(b, a), model.part(b, a));
    }
}

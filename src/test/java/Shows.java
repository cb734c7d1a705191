import java.util.ArrayList;
import java.util.List;

/** Shows to begin a test with, and pictures of what a show answers. No test calls an object more than 512 times. */
final class Shows {
    private Shows() {
    }

    /** Nozzles that follow their commands at once. */
    static FountainShow quick(int nozzles) {
        FountainShow x = new FountainShow();
        x.setUp(nozzles);
        for (int i = 0; i < nozzles; i++) {
            x.nozzle(i, FountainShow.LAG, 0);
            x.nozzle(i, FountainShow.SPEED, 1000);
        }
        return x;
    }

    /** Nozzles that follow at once, of the SIZE 1, and the wind unfiltered. */
    static FountainShow small(int nozzles) {
        FountainShow x = quick(nozzles);
        for (int i = 0; i < nozzles; i++) {
            x.nozzle(i, FountainShow.SIZE, 1);
        }
        x.set(FountainShow.FILTER, 1);
        return x;
    }

    /** A show at this time, at which nothing has happened yet. */
    static FountainShow at(int time) {
        FountainShow x = new FountainShow();
        for (int left = time; left > 0; left -= 2000) {
            x.tick(Math.min(left, 2000));
        }
        return x;
    }

    /** A show with so many cues: the first at the time 10, the last at the time 9 + cues. */
    static FountainShow withCues(int cues) {
        FountainShow x = new FountainShow();
        for (int i = 0; i < cues; i++) {
            x.cue(10 + i, 1, i);
        }
        return x;
    }

    /** A show in which nothing is as initially: at the time 50, with five nozzles and eight cues, of which two come. */
    static FountainShow busy() {
        FountainShow x = new FountainShow();
        x.setUp(2);
        x.command(3, 700);
        x.tick(5);
        x.save(0);
        x.setUp(5);
        for (int n = 0; n < 5; n++) {
            int[] settings = {11 + n, 4000 + n, 5 * n, 150 + n, n % 3, 90 + n};
            for (int s = 0; s < 6; s++) {
                x.nozzle(n, s, settings[s]);
            }
        }
        for (int p = 0; p < 3; p++) {
            x.pump(p, FountainShow.CAPACITY, 5 + p);
            x.pump(p, FountainShow.RISE, 2 + p);
        }
        int[] settings = {5, 40, 120, 650, 20, 50};
        for (int s = 0; s < 6; s++) {
            x.set(s, settings[s]);
        }
        x.wind(70);
        for (int i = 0; i < 8; i++) {
            x.cue(8 * i, 31 - i, 1000 - 90 * i);
        }
        x.tick(40);
        x.wind(20);
        x.tick(10);
        write(x, "12:bd=");
        return x;
    }

    static void write(FountainShow x, String text) {
        x.wipe();
        for (int i = 0; i < text.length(); i++) {
            x.say(text.charAt(i));
        }
    }

    /** All that can be asked, a line each. */
    static List<String> picture(FountainShow x) {
        List<String> lines = motion(x);
        for (int s = 10; s < 16; s++) {
            lines.add("state " + s + ": " + x.state(s));
        }
        lines.add("fault: " + x.fault());
        int nozzles = x.state(1);
        for (int n = 0; n < nozzles; n++) {
            for (int s = 0; s < 6; s++) {
                lines.add("spray " + n + " " + s + ": " + x.spray(n, s));
            }
        }
        for (int p = 0; p < 3; p++) {
            for (int s = 0; s < 2; s++) {
                lines.add("pressure " + p + " " + s + ": " + x.pressure(p, s));
            }
        }
        return lines;
    }

    /** What cues and ticks change. */
    static List<String> motion(FountainShow x) {
        List<String> lines = new ArrayList<>();
        for (int s = 0; s < 10; s++) {
            lines.add("state " + s + ": " + x.state(s));
        }
        int nozzles = x.state(1);
        for (int n = 0; n < nozzles; n++) {
            for (int s = 6; s < 12; s++) {
                lines.add("spray " + n + " " + s + ": " + x.spray(n, s));
            }
        }
        for (int p = 0; p < 3; p++) {
            for (int s = 2; s < 5; s++) {
                lines.add("pressure " + p + " " + s + ": " + x.pressure(p, s));
            }
        }
        return lines;
    }

    static List<String> cues(FountainShow x) {
        List<String> lines = new ArrayList<>();
        int count = x.state(2);
        for (int c = 0; c < count; c++) {
            lines.add("cue " + c + ": " + x.part(c, 0) + " " + x.part(c, 1) + " " + x.part(c, 2));
        }
        return lines;
    }
}

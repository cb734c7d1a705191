/** Promises 22 to 25: say, wipe, fault, read. */
public final class TextTest {
    private static final Check CHECK = new Check();

    public static void main(String[] args) {
        say();
        faults();
        everyPrefix();
        read();
        readErrors();
        CHECK.end();
    }

    private static void write(FountainShow x, String text) {
        Shows.write(x, text);
        CHECK.due("length of " + text, x.state(9), text.length());
    }

    private static void say() {
        FountainShow x = new FountainShow();
        CHECK.due("wipe nothing", x.wipe(), 0);
        int[] wrong = {32, 127, 0, -1, 65585, Integer.MIN_VALUE, Integer.MAX_VALUE};
        for (int code : wrong) {
            CHECK.due("say " + code, x.say(code), -2);
        }
        CHECK.due("nothing said", x.state(9), 0);
        for (int i = 1; i <= 80; i++) {
            CHECK.due("say the " + i, x.say(i % 2 == 0 ? 33 : 126), i);
        }
        CHECK.due("one too many", x.say(49), -4);
        CHECK.due("out of range comes first", x.say(32), -2);
        CHECK.due("length", x.state(9), 80);
        CHECK.due("its fault", x.fault(), 0);
        CHECK.due("wipe", x.wipe(), 80);
        CHECK.due("wiped", x.state(9), 0);
        CHECK.due("say again", x.say(49), 1);
        CHECK.due("nothing is left of before", x.fault(), 1);
    }

    private static void fault(String text, int want) {
        FountainShow x = new FountainShow();
        write(x, text);
        CHECK.due("fault of " + text, x.fault(), want);
        CHECK.due("again " + text, x.fault(), want);
        CHECK.due("length of " + text, x.state(9), text.length());
        CHECK.due("read " + text, x.read(0) == FountainShow.BAD_TEXT ? 1 : 0, want == FountainShow.NONE ? 0 : 1);
        CHECK.due("pad behind read " + text, x.state(9), want == FountainShow.NONE ? 0 : text.length());
    }

    private static void faults() {
        int none = FountainShow.NONE;
        fault("", 0);
        fault("0:a=0", none);
        fault("9999:abcdefghijkl=1000", none);
        fault("9999:l=999,0:a=1,10:bk=10", none);
        fault("10000:a=0", 4);
        fault("99999:a=0", 4);
        fault("00:a=0", 1);
        fault("01:a=0", 1);
        fault(":a=0", 0);
        fault("a=0", 0);
        fault("-1:a=0", 0);
        fault("1=a:0", 1);
        fault("1a=0", 1);
        fault("1,2:a=0", 1);
        fault("1::a=0", 2);
        fault("1:=0", 2);
        fault("1:1=0", 2);
        fault("1:,", 2);
        fault("1:A=0", 2);
        fault("1:m=0", 2);
        fault("1:`=0", 2);
        fault("1:am=0", 3);
        fault("1:aa=0", 3);
        fault("1:ba=0", 3);
        fault("1:acb=0", 4);
        fault("1:la=0", 3);
        fault("1:ll=0", 3);
        fault("1:a:0", 3);
        fault("1:a,0", 3);
        fault("1:a0", 3);
        fault("1:a==0", 4);
        fault("1:a=,", 4);
        fault("1:a=a", 4);
        fault("1:a=-1", 4);
        fault("1:a=1001", 7);
        fault("1:a=1010", 7);
        fault("1:a=2000", 7);
        fault("1:a=10000", 8);
        fault("1:a=00", 5);
        fault("1:a=05", 5);
        fault("1:a=0:", 5);
        fault("1:a=0=", 5);
        fault("1:a=0b", 5);
        fault("1:a=0;2:a=0", 5);
        fault("1:a=0,", 6);
        fault("1:a=0,,", 6);
        fault("1:a=0,a", 6);
        fault("1:a=0,2", 7);
        fault("1:a=0,2:", 8);
        fault("1:a=0,2:ab", 10);
        fault("1:a=0,2:ab=", 11);
        fault("1:a=0,2:ab=1", none);
        fault("1:a=0,02:a=1", 7);
        fault("1:a=0,2:b=7,3:cb=0", 15);
        fault("1:/=0", 2);
        fault("/:a=0", 0);
        fault("1:a=/", 4);
        fault("1:a=3~", 5);
    }

    /** A text of 80 characters, and what it lacks after each of its characters. */
    private static void everyPrefix() {
        FountainShow x = new FountainShow();
        String text = "0:a=0,1:b=1,2:c=2,3:d=3,4:e=4,5:f=5,6:g=6,7:h=7,8:i=8,9:j=9,10:k=10,9999:kl=1000";
        CHECK.due("length", text.length(), 80);
        for (int i = 0; i < text.length(); i++) {
            x.say(text.charAt(i));
            boolean correct = i >= 4 && Character.isDigit(text.charAt(i)) && text.lastIndexOf('=', i) > text.lastIndexOf(',', i);
            CHECK.due("after " + (i + 1), x.fault(), correct ? FountainShow.NONE : i + 1);
        }
        CHECK.due("read all", x.read(5), 12);
        CHECK.due("the last", x.part(11, 0), 10004);
        CHECK.due("its set", x.part(11, 1), 3 << 10);
        CHECK.due("its value", x.part(11, 2), 1000);
    }

    private static void read() {
        FountainShow x = new FountainShow();
        x.cue(15, 1, 1);
        write(x, "10:ac=2,5:b=3,5:l=4,5:abcdefghijkl=5");
        CHECK.due("number of cues", x.read(10), 4);
        CHECK.due("pad is empty", x.state(9), 0);
        int[][] want = {{15, 1, 1}, {15, 2, 3}, {15, 2048, 4}, {15, 4095, 5}, {20, 5, 2}};
        CHECK.due("all cues", x.state(2), want.length);
        for (int i = 0; i < want.length; i++) {
            for (int p = 0; p < 3; p++) {
                CHECK.due("cue " + i + " part " + p, x.part(i, p), want[i][p]);
            }
        }
        write(x, "9999:a=1000");
        CHECK.due("latest", x.read(90000), 1);
        CHECK.due("its time", x.part(5, 0), 99999);
        write(x, "0:a=0");
        CHECK.due("not later", x.read(0), 1);
        CHECK.due("comes first", x.part(0, 0), 0);
        FountainShow y = new FountainShow();
        write(y, "3:a=3,2:a=2,1:a=1,3:b=4,2:b=5");
        y.read(0);
        int[] values = {1, 2, 5, 3, 4};
        for (int i = 0; i < 5; i++) {
            CHECK.due("order " + i, y.part(i, 2), values[i]);
        }
    }

    private static void readErrors() {
        FountainShow x = new FountainShow();
        CHECK.due("empty", x.read(0), -3);
        CHECK.due("bad text first", x.read(-1), -3);
        write(x, "1:a=1,2:a=2");
        CHECK.due("later 90001", x.read(90001), -2);
        CHECK.due("later -1", x.read(-1), -2);
        CHECK.due("later greatest", x.read(Integer.MAX_VALUE), -2);
        CHECK.due("later least", x.read(Integer.MIN_VALUE), -2);
        for (int i = 0; i < 59; i++) {
            x.cue(1, 1, 1);
        }
        CHECK.due("one too many", x.read(0), -4);
        CHECK.due("later before too many", x.read(90001), -2);
        CHECK.due("none was added", x.state(2), 59);
        CHECK.due("the text stays", x.state(9), 11);
        x.remove(0);
        CHECK.due("just room", x.read(0), 2);
        CHECK.due("full", x.state(2), 60);
        CHECK.due("an empty pad is bad before it is too many", x.read(0), -3);
        write(x, "1:a=1");
        CHECK.due("full", x.read(0), -4);
        write(x, "1:a=1,");
        CHECK.due("bad before full", x.read(90001), -3);
    }
}

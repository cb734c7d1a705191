/** Each boundary that "Texts" and the promises 22 to 25 name: at it, just inside, just outside. */
public final class TextEdgesTest {
    private static final int NONE = FountainShow.NONE;
    private static final int BAD_VALUE = FountainShow.BAD_VALUE;
    private static final int BAD_TEXT = FountainShow.BAD_TEXT;
    private static final int TOO_MANY = FountainShow.TOO_MANY;
    /** 80 characters, twelve cues. */
    private static final String FULL =
        "0:a=0,1:b=1,2:c=2,3:d=3,4:e=4,5:f=5,6:g=6,7:h=7,8:i=8,9:j=9,10:k=10,9999:kl=1000";
    private static final Check CHECK = new Check();
    private static final Edges EDGES = new Edges(CHECK);

    public static void main(String[] args) {
        charactersToSay();
        eightyCharacters();
        wipeAtTheEnds();
        wipeLeavesNothing();
        emptyText();
        oneCharacter();
        leastTime();
        greatestTime();
        leastValue();
        greatestValue();
        noLeadingZeros();
        digits();
        lettersFromAToL();
        strictlyAscending();
        allTwelveLetters();
        atLeastOneLetter();
        atLeastOneDigit();
        signsBetween();
        anotherCue();
        textThatOnlyLacksItsEnd();
        faultOfAFullText();
        firstOfManyFaults();
        readLater();
        readAtAnotherTime();
        latestCueOfAText();
        readTheLastPlaces();
        readFromAFullPad();
        readTheMostCues();
        readKeepsTheOrder();
        readEmptiesThePad();
        refusedTextStays();
        CHECK.end();
    }

    private static FountainShow saying(String text) {
        FountainShow x = new FountainShow();
        Shows.write(x, text);
        return x;
    }

    /** The fault, and whether read() takes the text accordingly. */
    private static void fault(String text, int want) {
        FountainShow x = saying(text);
        CHECK.due("fault of " + text, x.fault(), want);
        CHECK.due("once more, of " + text, x.fault(), want);
        CHECK.due("the pad stays, with " + text, x.state(9), text.length());
        CHECK.isTrue("read " + text, (x.read(0) == BAD_TEXT) == (want != NONE));
        CHECK.due("cues of " + text, x.state(2) > 0 ? 1 : 0, want == NONE ? 1 : 0);
    }

    /** The only cue of the text. */
    private static void cueOf(String text, int time, int set, int value) {
        fault(text, NONE);
        FountainShow x = saying(text);
        CHECK.due("cues of " + text, x.read(0), 1);
        CHECK.due("time of " + text, x.part(0, 0), time);
        CHECK.due("set of " + text, x.part(0, 1), set);
        CHECK.due("value of " + text, x.part(0, 2), value);
    }

    /** say: "its code, 33 to 126": each of them, none beside them. */
    private static void charactersToSay() {
        EDGES.refusedOutside("say", 33, 126, BAD_VALUE, Shows::busy, (x, v) -> x.say(v));
        EDGES.refused("say a tab", BAD_VALUE, Shows::busy, x -> x.say(9));
        EDGES.refused("say nothing", BAD_VALUE, Shows::busy, x -> x.say(0));
        EDGES.refused("say a 0 with 65536 more", BAD_VALUE, Shows::busy, x -> x.say(65536 + '0'));
        for (int code = 33; code < 127; code++) {
            CHECK.due("say " + code, new FountainShow().say(code), 1);
        }
    }

    /** "a text of at most 80 characters", "Returns the length of the pad then", "TOO_MANY if the pad has 80". */
    private static void eightyCharacters() {
        FountainShow x = new FountainShow();
        for (int i = 0; i < 80; i++) {
            CHECK.due("the pad before", x.state(9), i);
            CHECK.due("say", x.say(FULL.charAt(i)), i + 1);
        }
        EDGES.refused("say the 81st", TOO_MANY, () -> saying(FULL), y -> y.say('0'));
        CHECK.due("there are 80", x.state(9), 80);
        CHECK.due("they are correct", x.fault(), NONE);
    }

    /** wipe: "Returns the length that it had": 0, 1, 79, 80. */
    private static void wipeAtTheEnds() {
        for (int length : Edges.inside(0, 80)) {
            FountainShow x = saying(FULL.substring(0, length));
            CHECK.due("wipe " + length, x.wipe(), length);
            CHECK.due("length behind " + length, x.state(9), 0);
            CHECK.due("wipe nothing behind " + length, x.wipe(), 0);
        }
    }

    /** "Empties the pad": what is said then begins a new text, of 80 characters again. */
    private static void wipeLeavesNothing() {
        FountainShow x = saying(FULL);
        x.wipe();
        CHECK.due("the empty pad", x.fault(), 0);
        CHECK.due("the first", x.say('7'), 1);
        CHECK.due("only it", x.fault(), 1);
        for (int i = 1; i < 80; i++) {
            CHECK.due("say", x.say('7'), i + 1);
        }
        CHECK.due("no more", x.say('7'), TOO_MANY);
    }

    /** A text needs a cue. */
    private static void emptyText() {
        fault("", 0);
        CHECK.due("of a new object", new FountainShow().fault(), 0);
        CHECK.due("read of a new object", new FountainShow().read(0), BAD_TEXT);
    }

    /** Each character: a digit can begin a text, no other one can. */
    private static void oneCharacter() {
        for (char character = 33; character < 127; character++) {
            fault(String.valueOf(character), Character.isDigit(character) ? 1 : 0);
        }
    }

    /** "a time (0 to 9999)": 0 and 1. */
    private static void leastTime() {
        cueOf("0:a=5", 0, 1, 5);
        cueOf("1:a=5", 1, 1, 5);
        fault("-1:a=5", 0);
    }

    /** "a time (0 to 9999)": 9998, 9999, 10000. */
    private static void greatestTime() {
        cueOf("9998:a=5", 9998, 1, 5);
        cueOf("9999:a=5", 9999, 1, 5);
        cueOf("1000:a=5", 1000, 1, 5);
        cueOf("999:a=5", 999, 1, 5);
        fault("10000:a=5", 4);
        fault("10001:a=5", 4);
        fault("99990:a=5", 4);
        fault("99999999999:a=5", 4);
        fault("4294967296:a=5", 4);
    }

    /** "the value (0 to 1000)": 0 and 1. */
    private static void leastValue() {
        cueOf("1:a=0", 1, 1, 0);
        cueOf("1:a=1", 1, 1, 1);
        fault("1:a=-1", 4);
    }

    /** "the value (0 to 1000)": 999, 1000, 1001. */
    private static void greatestValue() {
        cueOf("1:a=999", 1, 1, 999);
        cueOf("1:a=1000", 1, 1, 1000);
        cueOf("1:a=100", 1, 1, 100);
        fault("1:a=1001", 7);
        fault("1:a=1009", 7);
        fault("1:a=1010", 7);
        fault("1:a=9990", 7);
        fault("1:a=10000", 8);
        fault("1:a=99999999999", 7);
        fault("1:a=4294967296", 7);
    }

    /** "Numbers have no leading zeros": 0 is a number, 00 and 01 are none; zeros inside and at the end are fine. */
    private static void noLeadingZeros() {
        fault("0:a=0", NONE);
        fault("00:a=0", 1);
        fault("01:a=0", 1);
        fault("0:a=00", 5);
        fault("0:a=01", 5);
        fault("0:a=0,00:a=0", 7);
        fault("0:a=0,1:a=07", 11);
        cueOf("1010:a=10", 1010, 1, 10);
        cueOf("1001:a=101", 1001, 1, 101);
    }

    /** The characters beside the digits. */
    private static void digits() {
        cueOf("90:a=90", 90, 1, 90);
        fault("/:a=0", 0);
        fault(";:a=0", 0);
        fault("1/:a=0", 1);
        fault("1;:a=0", 1);
        fault("1:a=/", 4);
        fault("1:a=:", 4);
        fault("1:a=1/", 5);
        fault("1:a=1:", 5);
    }

    /** "the letters a to l": those beside them, and great ones. */
    private static void lettersFromAToL() {
        cueOf("1:a=5", 1, 1, 5);
        cueOf("1:b=5", 1, 2, 5);
        cueOf("1:k=5", 1, 1024, 5);
        cueOf("1:l=5", 1, 2048, 5);
        fault("1:`=5", 2);
        fault("1:m=5", 2);
        fault("1:z=5", 2);
        fault("1:A=5", 2);
        fault("1:L=5", 2);
        fault("1:a`=5", 3);
        fault("1:am=5", 3);
        fault("1:lm=5", 3);
    }

    /** "in strictly ascending order": one more, the same, one less. */
    private static void strictlyAscending() {
        cueOf("1:ef=5", 1, 48, 5);
        fault("1:ee=5", 3);
        fault("1:ed=5", 3);
        cueOf("1:al=5", 1, 2049, 5);
        fault("1:la=5", 3);
        cueOf("1:kl=5", 1, 3072, 5);
        fault("1:ll=5", 3);
        fault("1:lk=5", 3);
        fault("1:abb=5", 4);
        fault("1:acb=5", 4);
        fault("1:aca=5", 4);
        cueOf("1:abc=5", 1, 7, 5);
    }

    /** All letters; behind the last one only the sign can follow. */
    private static void allTwelveLetters() {
        cueOf("1:abcdefghijk=5", 1, 2047, 5);
        cueOf("1:abcdefghijkl=5", 1, 4095, 5);
        cueOf("1:bcdefghijkl=5", 1, 4094, 5);
        fault("1:abcdefghijkll=5", 14);
        fault("1:abcdefghijklm=5", 14);
        fault("1:abcdefghijkl", 14);
        fault("1:l", 3);
    }

    /** "letter { letter }". */
    private static void atLeastOneLetter() {
        fault("1:=5", 2);
        fault("1:5", 2);
        fault("1:,", 2);
        fault("1::", 2);
    }

    /** "number": of the time and of the value. */
    private static void atLeastOneDigit() {
        fault(":a=5", 0);
        fault("1:a=,", 4);
        fault("1:a==", 4);
        fault("1:a=a", 4);
        fault("1:a=5,:a=5", 6);
    }

    /** ":", "=" and "," stand just where they are due. */
    private static void signsBetween() {
        fault("1a=5", 1);
        fault("1=5", 1);
        fault("1,5", 1);
        fault("1:a5", 3);
        fault("1:a:5", 3);
        fault("1:a,5", 3);
        fault("1:a=5:", 5);
        fault("1:a=5=", 5);
        fault("1:a=5a", 5);
        fault("1:a=5;", 5);
    }

    /** "{ "," cue }": none, one and two more; a sign without a cue. */
    private static void anotherCue() {
        fault("1:a=5", NONE);
        fault("1:a=5,2:b=6", NONE);
        fault("1:a=5,2:b=6,3:c=7", NONE);
        fault(",1:a=5", 0);
        fault("1:a=5,", 6);
        fault("1:a=5,,2:b=6", 6);
        fault("1:a=5,2:b=6,", 12);
    }

    /** "if there is no such character, it is the length of the text": each beginning of two cues. */
    private static void textThatOnlyLacksItsEnd() {
        String text = "10:ab=70,9999:l=1000";
        for (int length = 0; length <= text.length(); length++) {
            boolean correct = length == 7 || length == 8 || length >= 17;
            fault(text.substring(0, length), correct ? NONE : length);
        }
    }

    /** "(The greatest length of the text does not matter for this.)": of 79 and 80 characters that lack an end. */
    private static void faultOfAFullText() {
        CHECK.due("length", FULL.length(), 80);
        fault(FULL, NONE);
        fault(FULL.substring(0, 79), NONE);
        String others = FULL.substring(0, 68);
        String[] ends = {"1234:klmnopq", "123:a=1000,", "123:a=1000,1", "12:a=100,10:", "1:a=1,10:abc", "1:a=10,10:a="};
        int[] faults = {75, 79, 80, 80, 80, 80};
        for (int i = 0; i < ends.length; i++) {
            CHECK.due("length with " + ends[i], (others + ends[i]).length(), i == 1 ? 79 : 80);
            fault(others + ends[i], faults[i]);
        }
        fault(FULL.substring(0, 79) + "1", 79);
        fault(FULL.substring(0, 79) + ",", 80);
        fault(FULL.substring(0, 79) + ":", 79);
    }

    /** "the index of the first character with which .. no correct text can begin". */
    private static void firstOfManyFaults() {
        fault("1:ba=0,01:a=1", 3);
        fault("1:a=1001,1:=0", 7);
        fault("~1:a=1", 0);
        fault("1:a=1~", 5);
        fault("1:a=1,2:b=2,3:dc=3,4:=4", 15);
    }

    /** read: "0 to 90000: what is added to their times". */
    private static void readLater() {
        EDGES.refusedOutside("later", 0, 90000, BAD_VALUE, () -> saying("5:a=6"), (x, v) -> x.read(v));
        for (int later : Edges.inside(0, 90000)) {
            FountainShow x = saying("5:a=6");
            CHECK.due("read " + later, x.read(later), 1);
            CHECK.due("time with " + later, x.part(0, 0), 5 + later);
        }
    }

    /** "what is added to their times": the present time is not; what has passed then is added too. */
    private static void readAtAnotherTime() {
        FountainShow x = Shows.at(20);
        for (int later : new int[] {0, 12, 13, 14}) {
            Shows.write(x, "7:a=" + later);
            CHECK.due("read " + later, x.read(later), 1);
        }
        int[] times = {7, 19, 20, 21};
        for (int i = 0; i < 4; i++) {
            CHECK.due("time of the cue " + i, x.part(i, 0), times[i]);
        }
        CHECK.due("the next one", x.state(8), 2);
        x.tick(1);
        CHECK.due("it is carried out", x.spray(0, 6), 13);
    }

    /** The least and the greatest time of all. */
    private static void latestCueOfAText() {
        FountainShow x = saying("9999:a=1,0:a=2,9998:a=3");
        CHECK.due("read", x.read(90000), 3);
        CHECK.due("first", x.part(0, 0), 90000);
        CHECK.due("last but one", x.part(1, 0), 99998);
        CHECK.due("last", x.part(2, 0), 99999);
    }

    private static FountainShow besides(int cues, String text) {
        FountainShow x = Shows.withCues(cues);
        Shows.write(x, text);
        return x;
    }

    /** "TOO_MANY if there would be more than 60 cues": 59, 60, 61. */
    private static void readTheLastPlaces() {
        CHECK.due("two to 59", besides(57, "1:a=1,2:b=2").read(0), 2);
        CHECK.due("two to 60", besides(58, "1:a=1,2:b=2").read(0), 2);
        EDGES.refused("two to 61", TOO_MANY, () -> besides(59, "1:a=1,2:b=2"), x -> x.read(0));
        CHECK.due("one to 60", besides(59, "1:a=1").read(0), 1);
        EDGES.refused("one to 61", TOO_MANY, () -> besides(60, "1:a=1"), x -> x.read(0));
        FountainShow x = besides(58, "1:a=1,2:b=2");
        x.read(0);
        CHECK.due("there are 60", x.state(2), 60);
        CHECK.due("the first", x.part(0, 0), 1);
        CHECK.due("the last", x.part(59, 2), 57);
    }

    /** A text of 80 characters. */
    private static void readFromAFullPad() {
        FountainShow x = saying(FULL);
        CHECK.due("read", x.read(0), 12);
        CHECK.due("the last time", x.part(11, 0), 9999);
        CHECK.due("the last set", x.part(11, 1), 3072);
        CHECK.due("the last value", x.part(11, 2), 1000);
        CHECK.due("no more", x.part(12, 0), FountainShow.NO_SUCH);
    }

    /** The most cues that a text can have are 13. */
    private static void readTheMostCues() {
        String text = "0:a=0,1:a=1,2:a=2,3:a=3,4:a=4,5:a=5,6:a=6,7:a=7,8:a=8,9:a=9,0:b=0,1:b=1,2:b=2";
        CHECK.due("thirteen", saying(text).read(0), 13);
        CHECK.due("thirteen to 60", besides(47, text).read(0), 13);
        EDGES.refused("thirteen to 61", TOO_MANY, () -> besides(48, text), x -> x.read(0));
    }

    /** "Adds all cues that the pad describes, one after the other": those of the same time behind those that are there. */
    private static void readKeepsTheOrder() {
        FountainShow x = besides(3, "2:a=21,1:a=22,2:a=23,0:a=24,3:a=25,1:a=26");
        CHECK.due("read", x.read(10), 6);
        int[][] due = {{10, 0}, {10, 24}, {11, 1}, {11, 22}, {11, 26}, {12, 2}, {12, 21}, {12, 23}, {13, 25}};
        for (int i = 0; i < due.length; i++) {
            CHECK.due("time " + i, x.part(i, 0), due[i][0]);
            CHECK.due("value " + i, x.part(i, 2), due[i][1]);
        }
    }

    /** "and empties the pad": a second read() has no text; 80 characters can be said again. */
    private static void readEmptiesThePad() {
        FountainShow x = saying(FULL);
        x.read(0);
        CHECK.due("length", x.state(9), 0);
        CHECK.due("fault", x.fault(), 0);
        CHECK.due("read again", x.read(0), BAD_TEXT);
        CHECK.due("cues", x.state(2), 12);
        Shows.write(x, FULL);
        CHECK.due("full again", x.state(9), 80);
    }

    /** A text that is refused stays, and is read when it can be. */
    private static void refusedTextStays() {
        FountainShow x = besides(60, "1:a=1");
        x.read(0);
        x.read(90001);
        CHECK.due("it stays", x.state(9), 5);
        x.remove(0);
        CHECK.due("it is read", x.read(0), 1);
        FountainShow y = saying("1:a=");
        y.read(0);
        CHECK.due("it stays, not correct", y.state(9), 4);
        y.say('7');
        CHECK.due("it is read, complete", y.read(0), 1);
    }
}

import java.lang.reflect.Constructor;
import java.lang.reflect.Field;
import java.lang.reflect.Member;
import java.lang.reflect.Method;
import java.lang.reflect.Modifier;
import java.util.ArrayList;
import java.util.Collections;
import java.util.List;
import java.util.TreeSet;

/** The public face, and rule 1 of LANGUAGE.md: nothing else is seen, no private method has the name of a public one. */
public final class FaceTest {
    private static final String[] CONSTANTS = {
        "NO_SUCH -1", "BAD_VALUE -2", "BAD_TEXT -3", "TOO_MANY -4", "NOT_POSSIBLE -5", "NONE -6",
        "SIZE 0", "HEIGHT 1", "LAG 2", "SPEED 3", "PUMP 4", "DRIFT 5", "CAPACITY 0", "RISE 1",
        "FILTER 0", "FIRST 1", "SECOND 2", "CUT 3", "HOLD 4", "SPLASH 5"};
    private static final String[] METHODS = {
        "int setUp 1", "int nozzle 3", "int pump 3", "int set 2", "int wind 1", "int cue 3", "int remove 1",
        "int move 2", "int part 2", "int command 2", "int tick 1", "int rewind 0", "int spray 2", "int pressure 2",
        "float load 1", "double meanHeight 0", "int state 1", "int ahead 3", "int delay 3", "int safeCut 1",
        "int say 1", "int wipe 0", "int fault 0", "int read 1", "int save 1", "int restore 1"};
    private static final Check CHECK = new Check();

    public static void main(String[] args) throws IllegalAccessException {
        CHECK.isTrue("public and final", Modifier.isPublic(FountainShow.class.getModifiers())
            && Modifier.isFinal(FountainShow.class.getModifiers()));
        constants();
        constructor();
        methods();
        classes();
        CHECK.end();
    }

    private static void same(String what, List<String> got, String[] want) {
        List<String> due = new ArrayList<>(List.of(want));
        Collections.sort(got);
        Collections.sort(due);
        CHECK.isTrue(what + ", are " + got, got.equals(due));
    }

    private static boolean seen(Member member) {
        return !Modifier.isPrivate(member.getModifiers()) && !member.isSynthetic();
    }

    private static void constants() throws IllegalAccessException {
        List<String> got = new ArrayList<>();
        for (Field field : FountainShow.class.getDeclaredFields()) {
            if (seen(field)) {
                got.add(field.getName() + " " + field.getInt(null));
                CHECK.isTrue(field.getName(), Modifier.isPublic(field.getModifiers())
                    && Modifier.isFinal(field.getModifiers()) && field.getType() == int.class);
            } else if (Modifier.isStatic(field.getModifiers())) {
                CHECK.isTrue(field.getName() + " is final", Modifier.isFinal(field.getModifiers()));
            }
        }
        same("constants", got, CONSTANTS);
    }

    private static void constructor() {
        Constructor<?>[] all = FountainShow.class.getDeclaredConstructors();
        CHECK.due("constructors", all.length, 1);
        CHECK.isTrue("public", Modifier.isPublic(all[0].getModifiers()));
        CHECK.due("its arguments", all[0].getParameterCount(), 0);
    }

    private static void methods() {
        List<String> got = new ArrayList<>();
        for (Method method : FountainShow.class.getDeclaredMethods()) {
            if (seen(method)) {
                got.add(method.getReturnType() + " " + method.getName() + " " + method.getParameterCount());
                CHECK.isTrue(method.getName(), Modifier.isPublic(method.getModifiers())
                    && !Modifier.isStatic(method.getModifiers()));
                for (Class<?> type : method.getParameterTypes()) {
                    CHECK.isTrue("argument of " + method.getName(), type == int.class);
                }
            }
        }
        same("methods", got, METHODS);
    }

    private static void classes() {
        TreeSet<String> names = new TreeSet<>();
        for (String method : METHODS) {
            names.add(method.split(" ")[1]);
        }
        for (Method method : FountainShow.class.getDeclaredMethods()) {
            CHECK.isTrue("private " + method.getName(), seen(method) || !names.contains(method.getName()));
        }
        for (Class<?> inside : FountainShow.class.getDeclaredClasses()) {
            CHECK.isTrue(inside.getName(), Modifier.isStatic(inside.getModifiers())
                && !Modifier.isPublic(inside.getModifiers()) && !Modifier.isProtected(inside.getModifiers()));
            for (Method method : inside.getDeclaredMethods()) {
                CHECK.isTrue(inside.getName() + " " + method.getName(), !names.contains(method.getName()));
            }
            for (Field field : inside.getDeclaredFields()) {
                CHECK.isTrue(field.getName() + " is no state of all",
                    !Modifier.isStatic(field.getModifiers()) || Modifier.isFinal(field.getModifiers()));
            }
        }
    }
}

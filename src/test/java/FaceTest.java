import java.lang.reflect.Constructor;
import java.lang.reflect.Field;
import java.lang.reflect.Method;
import java.lang.reflect.Modifier;
import java.nio.file.Files;
import java.nio.file.Path;
import java.util.Arrays;
import java.util.Set;
import java.util.TreeSet;

/** The public face, and those rules of LANGUAGE.md that can be seen without reading the program. */
final class FaceTest {
    private static final String[] METHODS = {
        "int addRoof(int,int,int,int) IllegalArgumentException IllegalStateException",
        "int addUser(int,int) IllegalArgumentException IllegalStateException",
        "int setDemand(int,int) IndexOutOfBoundsException IllegalArgumentException",
        "int setReservoir(int,int,int) IllegalArgumentException",
        "int setWays(int,int,int) IllegalArgumentException",
        "int setting(int) IllegalArgumentException",
        "int roof(int,int) IndexOutOfBoundsException IllegalArgumentException",
        "int user(int,int) IndexOutOfBoundsException IllegalArgumentException",
        "int addRain(int,int) IllegalArgumentException IllegalStateException",
        "int addRandomRain(int,int,int,int) IllegalArgumentException IllegalStateException",
        "int rain(int) IndexOutOfBoundsException",
        "int run(int) IllegalArgumentException IllegalStateException",
        "int restart()",
        "int day(int,int) IndexOutOfBoundsException IllegalArgumentException",
        "long sum(int) IllegalArgumentException",
        "double reliability()",
        "int longestShortage()",
        "int shortDaysWith(int) IllegalArgumentException",
        "int capacityFor(int) IllegalArgumentException",
        "int bestRule()",
        "int sustainable()",
        "long gutterLoss(int) IndexOutOfBoundsException",
        "int append(int) IllegalArgumentException IllegalStateException",
        "int clearText()",
        "int parse()",
        "int undo() IllegalStateException",
        "long digest()",
    };
    private static final String[] FORBIDDEN = {"import ", "package ", "->", "::", "catch", "finally",
        "Exact", "synchronized", "assert ", "Object ", "System.out", "System.nano", "currentTime",
        "new Random", ".random", "instanceof"};

    private final Checks checks;
    private final String source;

    FaceTest(Checks checks, String source) {
        this.checks = checks;
        this.source = source;
    }

    void run() throws Exception {
        methods();
        members();
        source();
    }

    private void methods() {
        checks.begin("the public face");
        Set<String> wanted = new TreeSet<>(Arrays.asList(METHODS));
        Set<String> found = new TreeSet<>();
        Set<String> names = new TreeSet<>();
        for (Method m : RainReservoir.class.getDeclaredMethods()) {
            if (!Modifier.isPrivate(m.getModifiers())) {
                found.add(told(m));
                names.add(m.getName());
            }
        }
        checks.hold(found.equals(wanted), "the methods are " + found);
        for (Method m : RainReservoir.class.getDeclaredMethods()) {
            boolean hidden = Modifier.isPrivate(m.getModifiers()) && names.contains(m.getName());
            checks.hold(!hidden, m + " is private and bears a public name");
        }
    }

    private static String told(Method m) {
        StringBuilder line = new StringBuilder();
        line.append(m.getReturnType()).append(' ').append(m.getName()).append('(');
        for (int i = 0; i < m.getParameterCount(); i++) {
            line.append(i == 0 ? "" : ",").append(m.getParameterTypes()[i]);
        }
        line.append(')');
        for (Class<?> e : m.getExceptionTypes()) {
            line.append(' ').append(e.getSimpleName());
        }
        return line.toString();
    }

    private void members() {
        checks.hold(Modifier.isFinal(RainReservoir.class.getModifiers()), "the class is not final");
        checks.due("constructors", RainReservoir.class.getDeclaredConstructors().length, 1);
        for (Constructor<?> c : RainReservoir.class.getDeclaredConstructors()) {
            checks.hold(Modifier.isPublic(c.getModifiers()) && c.getParameterCount() == 0, c + "");
        }
        for (Field f : RainReservoir.class.getDeclaredFields()) {
            boolean constant = f.getName().equals("NONE");
            checks.hold(constant ? Modifier.isPublic(f.getModifiers()) : Modifier.isPrivate(f.getModifiers()),
                f + " is not as the face has it");
            checks.hold(!Modifier.isStatic(f.getModifiers()) || Modifier.isFinal(f.getModifiers()),
                f + " is static and not final");
        }
        for (Class<?> inner : RainReservoir.class.getDeclaredClasses()) {
            checks.hold(Modifier.isStatic(inner.getModifiers()) && !Modifier.isPublic(inner.getModifiers()),
                inner + " is public or not static");
            checks.hold(inner.getDeclaredFields().length <= 20, inner + " has many fields");
        }
        checks.hold(RainReservoir.class.getDeclaredClasses().length < 12, "there are many classes");
    }

    private void source() throws Exception {
        checks.begin("LANGUAGE.md");
        String text = Files.readString(Path.of(source));
        for (String word : FORBIDDEN) {
            checks.hold(!text.contains(word), "the source has " + word);
        }
        checks.hold(text.chars().allMatch(sign -> sign < 128), "the source has a sign above 127");
    }
}

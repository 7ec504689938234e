import java.io.IOException;
import java.lang.reflect.Constructor;
import java.lang.reflect.Field;
import java.lang.reflect.Method;
import java.lang.reflect.Modifier;
import java.nio.file.Files;
import java.nio.file.Path;
import java.util.Set;
import java.util.TreeSet;
import java.util.regex.Pattern;

/** The public face, the constants, and the rules of LANGUAGE.md that a search of the source can see. */
public final class FaceTest {
    private static final Check CHECK = new Check();
    private static final String FACE = "feed1 end1 text0 fault0 program2 block3 act4 range3 along4 outcome1 known2 why2 "
        + "dominates2 loop2 thread2 threads1 fold0 sweep0 limit1 input2 ran2 wrote2 path2 saved2 lead3 draw2 keep1 back1 "
        + "sheet3 lay3 read4 torn0 count1";
    private static final String[] FORBIDDEN = {"\\bthrow\\b", "\\btry\\b", "\\bcatch\\b", "\\bassert\\b",
        "\\bsynchronized\\b", "\\bimport\\b", "^package\\b", "->", "::", "\\bSystem\\.(out|err|exit|nanoTime|currentTimeMillis)\\b",
        "\\bRandom\\b", "\\bprotected\\b", "Exact\\("};

    public static void main(String[] args) throws IOException {
        constants();
        members();
        nested(KnownTurns.class);
        source(Files.readString(Path.of(args.length > 0 ? args[0] : "src/main/java/KnownTurns.java")));
        CHECK.finish();
    }

    private static void constants() {
        CHECK.due("BAD", KnownTurns.BAD, -1);
        CHECK.due("STATE", KnownTurns.STATE, -2);
        CHECK.due("FULL", KnownTurns.FULL, -3);
        CHECK.due("NONE", KnownTurns.NONE, -4);
    }

    private static void members() {
        Set<String> due = new TreeSet<>(Set.of(FACE.split(" ")));
        Set<String> found = new TreeSet<>();
        for (Method method : KnownTurns.class.getDeclaredMethods()) {
            if (!Modifier.isPrivate(method.getModifiers())) {
                found.add(method.getName() + method.getParameterCount());
                CHECK.holds(method + " is public", Modifier.isPublic(method.getModifiers()));
                CHECK.holds(method + " answers int", method.getReturnType() == int.class);
            }
        }
        CHECK.holds("the methods are " + found, found.equals(due));
        Set<String> constants = new TreeSet<>();
        for (Field field : KnownTurns.class.getDeclaredFields()) {
            if (!Modifier.isPrivate(field.getModifiers())) {
                constants.add(field.getName());
            }
        }
        CHECK.holds("the constants are " + constants, constants.equals(Set.of("BAD", "STATE", "FULL", "NONE")));
        Constructor<?>[] constructors = KnownTurns.class.getDeclaredConstructors();
        CHECK.due("constructors", constructors.length, 1);
        CHECK.due("parameters of the constructor", constructors[0].getParameterCount(), 0);
        CHECK.holds("the class is final", Modifier.isFinal(KnownTurns.class.getModifiers()));
    }

    private static void nested(Class<?> outer) {
        Set<String> face = new TreeSet<>();
        for (String name : FACE.split(" ")) {
            face.add(name.substring(0, name.length() - 1));
        }
        noPrivateNamesake(outer, face);
        Class<?>[] inside = outer.getDeclaredClasses();
        CHECK.holds("at most twelve classes", inside.length + 1 <= 12);
        for (Class<?> type : inside) {
            CHECK.holds(type + " is static", Modifier.isStatic(type.getModifiers()));
            noPrivateNamesake(type, face);
        }
    }

    private static void noPrivateNamesake(Class<?> type, Set<String> face) {
        for (Method method : type.getDeclaredMethods()) {
            CHECK.holds(method + " bears no name of the face",
                Modifier.isPublic(method.getModifiers()) || !face.contains(method.getName()));
            CHECK.holds(method + " has few parameters", method.getParameterCount() <= 7);
        }
        int fields = 0;
        for (Field field : type.getDeclaredFields()) {
            boolean isStatic = Modifier.isStatic(field.getModifiers());
            fields += isStatic ? 0 : 1;
            CHECK.holds(field + " is final if it is static", !isStatic || Modifier.isFinal(field.getModifiers()));
        }
        CHECK.holds(type + " has few fields", fields <= 20);
    }

    private static void source(String text) {
        String code = text.replaceAll("(?s)/\\*.*?\\*/", "").replaceAll("//[^\n]*", "");
        for (String word : FORBIDDEN) {
            CHECK.holds("the source is free of " + word, !Pattern.compile(word, Pattern.MULTILINE).matcher(code).find());
        }
        shortMethods(text.split("\n"));
    }

    /** Rule 11: "Methods stay short (some sixty lines)"; a method begins and ends with lines of the same indentation. */
    private static void shortMethods(String[] lines) {
        int methods = 0;
        for (int from = 0; from < lines.length; from++) {
            if (lines[from].matches(" +[\\w\\[\\] ]+\\([\\w\\[\\], ]*\\) \\{")) {
                String indent = lines[from].replaceFirst("\\S.*", "");
                int to = from;
                while (!lines[to].equals(indent + "}")) {
                    to++;
                }
                methods++;
                CHECK.holds(lines[from].trim() + " has at most sixty lines", to - from < 60);
            }
        }
        CHECK.holds("the methods are found", methods > 100);
    }
}

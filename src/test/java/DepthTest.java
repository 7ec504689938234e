import java.io.File;
import java.io.PrintWriter;
import java.io.StringWriter;
import java.util.ArrayList;
import java.util.HashMap;
import java.util.List;
import java.util.Map;
import java.util.Optional;
import java.util.Set;
import java.util.TreeSet;
import java.util.regex.Matcher;
import java.util.regex.Pattern;
import java.util.spi.ToolProvider;

/** Rules 4, 8, 11 and 12 of LANGUAGE.md, in the compiled class: what it calls, how deep calls go, and that only constructors make objects. */
public final class DepthTest {
    private static final Pattern METHOD = Pattern.compile("^  (?:[^ (].*? )?([\\w$]+)\\([^)]*\\);$");
    private static final Pattern CLASS = Pattern.compile("^[^ ].*?class (KnownTurns(?:\\$\\w+)?) .*");
    private static final Pattern CALL = Pattern.compile("// (?:Interface)?Method (?:([\\w/$]+)\\.)?\"?([\\w<>]+)\"?:");
    private static final Pattern NEW = Pattern.compile("\\d+: (new|newarray|anewarray|multianewarray)\\b");
    private static final Set<String> LIBRARY = Set.of("java/lang/Object.<init>", "java/lang/String.length", "java/lang/String.charAt",
        "java/lang/Math.min", "java/lang/Math.max", "java/lang/Integer.bitCount", "java/lang/System.arraycopy");

    private final Check check = new Check();
    private final Map<String, Set<String>> calls = new HashMap<>();

    public static void main(String[] args) throws Exception {
        Optional<ToolProvider> javap = ToolProvider.findFirst("javap");
        if (javap.isEmpty()) {
            System.out.println("there is no javap here, so the depth of calls is not looked at");
            return;
        }
        new DepthTest().look(javap.get());
    }

    private void look(ToolProvider javap) throws Exception {
        File home = new File(KnownTurns.class.getProtectionDomain().getCodeSource().getLocation().toURI());
        List<String> words = new ArrayList<>(List.of("-c", "-p"));
        for (File file : home.listFiles()) {
            if (file.getName().matches("KnownTurns(\\$\\w+)?\\.class")) {
                words.add(file.getPath());
            }
        }
        StringWriter text = new StringWriter();
        javap.run(new PrintWriter(text), new PrintWriter(System.err), words.toArray(new String[0]));
        readCalls(text.toString().split("\\R"));
        check.holds("the methods are found", calls.containsKey("KnownTurns.feed") && calls.containsKey("KnownTurns.refresh"));
        onlyListedLibrary();
        for (String method : calls.keySet()) {
            List<String> way = longestWay(method, List.of());
            check.holds(way + " is at most eight deep", way.size() <= 8);
        }
        check.finish();
    }

    /** Rule 4: of all that it lists, the class calls these alone. */
    private void onlyListedLibrary() {
        for (Set<String> called : calls.values()) {
            for (String name : called) {
                check.holds(name + " is listed", !name.startsWith("java/") || LIBRARY.contains(name));
            }
        }
    }

    private void readCalls(String[] lines) {
        String type = "";
        String method = "";
        for (String line : lines) {
            Matcher ofClass = CLASS.matcher(line);
            Matcher ofMethod = METHOD.matcher(line);
            Matcher call = CALL.matcher(line);
            if (ofClass.matches()) {
                type = ofClass.group(1);
            } else if (ofMethod.matches()) {
                String name = ofMethod.group(1);
                method = type + "." + (name.startsWith("KnownTurns") ? "<init>" : name);
                calls.putIfAbsent(method, new TreeSet<>());
            } else if (NEW.matcher(line).find()) {
                check.holds(method + " makes no object", method.endsWith("<init>"));
            }
            if (call.find()) {
                calls.get(method).add((call.group(1) == null ? type : call.group(1)) + "." + call.group(2));
            }
        }
    }

    private List<String> longestWay(String method, List<String> open) {
        check.holds(method + " does not call itself", !open.contains(method));
        List<String> here = new ArrayList<>(open);
        here.add(method);
        List<String> longest = List.of();
        for (String called : calls.getOrDefault(method, Set.of())) {
            List<String> way = open.contains(method) ? List.of() : longestWay(called, here);
            longest = way.size() > longest.size() ? way : longest;
        }
        List<String> whole = new ArrayList<>(List.of(method));
        whole.addAll(longest);
        return whole;
    }
}

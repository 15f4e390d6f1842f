import java.io.PrintWriter;
import java.io.StringWriter;
import java.nio.file.DirectoryStream;
import java.nio.file.Files;
import java.nio.file.Path;
import java.util.ArrayList;
import java.util.HashMap;
import java.util.HashSet;
import java.util.List;
import java.util.Map;
import java.util.Optional;
import java.util.Set;
import java.util.TreeMap;
import java.util.TreeSet;
import java.util.regex.Matcher;
import java.util.regex.Pattern;
import java.util.spi.ToolProvider;

/** The rules of LANGUAGE.md that can be read off the compiled class: what it calls, how deep, what it may throw. */
public final class CallsTest {
    private static final Set<String> LIBRARY = Set.of(
        "java/lang/Object.\"<init>\":()V", "java/lang/String.length:()I", "java/lang/String.charAt:(I)C",
        "java/lang/String.indexOf:(I)I", "java/util/Arrays.copyOf:([II)[I", "java/util/Arrays.fill:([II)V",
        "java/lang/System.arraycopy:(Ljava/lang/Object;ILjava/lang/Object;II)V",
        "java/lang/Math.max:(II)I", "java/lang/Math.max:(JJ)J", "java/lang/Math.abs:(I)I", "java/lang/Math.abs:(J)J");
    /** Ends of a method by an exception, what catches one, locks, and what is no plain call. */
    private static final Set<String> RULED_OUT = Set.of("athrow", "monitorenter", "monitorexit", "invokedynamic",
        "multianewarray", "jsr", "ret", "checkcast", "dadd", "fadd", "ddiv", "fdiv", "drem", "frem");

    private static final Map<String, Set<String>> CALLS = new TreeMap<>();
    private static final Map<String, Integer> DEPTHS = new HashMap<>();

    public static void main(String[] args) throws Exception {
        Optional<ToolProvider> javap = ToolProvider.findFirst("javap");
        if (javap.isEmpty()) {
            // javac and java alone are promised where this runs
            System.out.println("this JDK has no javap: the compiled class was not read");
            return;
        }
        read(disassembled(javap.get()));
        Due.is("methods were read", CALLS.size() > 100 ? 1 : 0, 1);
        callsAreNoDeeperThanEight();
        theReaderAloneCallsItself();
        Due.end();
    }

    private static String disassembled(ToolProvider javap) throws Exception {
        Path here = Path.of(BellAndDrop.class.getProtectionDomain().getCodeSource().getLocation().toURI());
        List<String> asked = new ArrayList<>(List.of("-c", "-p"));
        try (DirectoryStream<Path> files = Files.newDirectoryStream(here, "BellAndDrop*.class")) {
            for (Path file : files) {
                if (file.getFileName().toString().matches("BellAndDrop(\\$.*)?\\.class")) {
                    asked.add(file.toString());
                }
            }
        }
        StringWriter told = new StringWriter();
        PrintWriter out = new PrintWriter(told);
        javap.run(out, out, asked.toArray(new String[0]));
        return told.toString();
    }

    /** Takes down, of each method, which own methods it calls; what no rule lets is told at once. */
    private static void read(String told) {
        Pattern head = Pattern.compile("^  (?:[\\w.$\\[\\]]+ )*([\\w.$]+)\\((.*)\\);$");
        Pattern step = Pattern.compile("^ +\\d+: (\\w+)(.*)$");
        Pattern target = Pattern.compile("// (?:Interface)?Method (\\S+)$");
        String ofClass = "";
        String method = "";
        for (String line : told.split("\n")) {
            Matcher h = head.matcher(line);
            Matcher s = step.matcher(line);
            if (!line.startsWith(" ") && line.contains("class BellAndDrop")) {
                ofClass = line.replaceAll("^.*class (\\S+) .*$", "$1");
            } else if (h.matches()) {
                String name = h.group(1).equals(ofClass) ? "\"<init>\"" : h.group(1);
                method = ofClass + "." + name;
                Due.is("two methods bear the name " + method, CALLS.containsKey(method) ? 1 : 0, 0);
                CALLS.put(method, new TreeSet<>());
            } else if (line.contains("Exception table")) {
                Due.is("something is caught in " + method, 1, 0);
            } else if (s.matches()) {
                Due.is(s.group(1) + " in " + method, RULED_OUT.contains(s.group(1)) ? 1 : 0, 0);
                Matcher t = target.matcher(s.group(2));
                if (t.find()) {
                    take(method, ofClass, t.group(1));
                }
            }
        }
    }

    private static void take(String method, String ofClass, String called) {
        if (called.startsWith("java/")) {
            Due.is(method + " calls " + called, LIBRARY.contains(called) ? 0 : 1, 0);
            return;
        }
        String name = called.substring(0, called.indexOf(':'));
        CALLS.get(method).add(name.contains(".") ? name : ofClass + "." + name);
    }

    private static void callsAreNoDeeperThanEight() {
        for (String method : CALLS.keySet()) {
            int depth = depthOf(method);
            Due.is("how deep " + method + " calls: " + depth + ", 8 at most", depth > 8 ? 1 : 0, 0);
        }
    }

    /** How many methods stand open at most, that one with them; calls that lead back to the caller are not counted. */
    private static int depthOf(String method) {
        Integer known = DEPTHS.get(method);
        if (known != null) {
            return known;
        }
        Set<String> together = new HashSet<>();
        together.add(method);
        for (String other : reached(method)) {
            if (reached(other).contains(method)) {
                together.add(other);
            }
        }
        int behind = 0;
        for (String one : together) {
            for (String called : CALLS.get(one)) {
                if (!together.contains(called)) {
                    behind = Math.max(behind, depthOf(called));
                }
            }
        }
        DEPTHS.put(method, behind + 1);
        return behind + 1;
    }

    private static Set<String> reached(String method) {
        Set<String> found = new HashSet<>();
        List<String> open = new ArrayList<>(List.of(method));
        while (!open.isEmpty()) {
            String at = open.remove(open.size() - 1);
            Due.is("there is " + at, CALLS.containsKey(at) ? 1 : 0, 1);
            for (String called : CALLS.getOrDefault(at, Set.of())) {
                if (found.add(called)) {
                    open.add(called);
                }
            }
        }
        return found;
    }

    private static void theReaderAloneCallsItself() {
        for (String method : CALLS.keySet()) {
            boolean again = reached(method).contains(method);
            boolean reads = method.matches("BellAndDrop\\$TextReader\\.read(Or|And|Not|Sum|Term|One)");
            Due.is(method + " calls itself", again ? 1 : 0, reads ? 1 : 0);
        }
    }
}

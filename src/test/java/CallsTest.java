import java.io.PrintWriter;
import java.io.StringWriter;
import java.nio.file.DirectoryStream;
import java.nio.file.Files;
import java.nio.file.Path;
import java.util.ArrayList;
import java.util.HashMap;
import java.util.HashSet;
import java.util.List;
import java.util.Map;
import java.util.Set;
import java.util.TreeMap;
import java.util.TreeSet;
import java.util.regex.Matcher;
import java.util.regex.Pattern;
import java.util.spi.ToolProvider;

/**
 * Rules 1, 4, 6, 11 and 12 of LANGUAGE.md as the compiled class tells them: who calls whom and how deep, what of the
 * library is called, and where objects are made.
 */
public final class CallsTest {
    private static final Checks CHECKS = new Checks("CallsTest");
    private static final int MOST_DEEP = 8;
    private static final Pattern METHOD = Pattern.compile("^  (?! )(?:[\\w$.\\[\\]]+ )*([\\w$.<>]+)\\(.*\\).*;$");
    private static final Pattern DESCRIPTOR = Pattern.compile("^    descriptor: (\\S+)$");
    private static final Pattern CALL = Pattern.compile("invoke\\w+ .*// (?:Interface)?Method (\\S+)$");
    private static final Pattern MADE = Pattern.compile("^ *\\d+: (?:new|newarray|anewarray|multianewarray) +(.*)$");
    private static final Set<String> LIBRARY = Set.of("java/lang/Object.<init>", "java/lang/Math.max",
        "java/lang/Math.min", "java/lang/Integer.bitCount", "java/lang/Integer.compare", "java/lang/String.charAt",
        "java/lang/String.indexOf", "java/lang/System.arraycopy", "java/util/Arrays.fill", "java/util/Arrays.copyOf",
        "java/util/NoSuchElementException.<init>");

    private final Map<String, Set<String>> calls = new TreeMap<>();
    private final Map<String, List<String>> made = new TreeMap<>();
    private final Set<String> library = new TreeSet<>();

    public static void main(String[] args) throws Exception {
        ToolProvider javap = ToolProvider.findFirst("javap").orElse(null);
        CHECKS.due("javap is there", javap != null, true);
        CallsTest test = new CallsTest();
        Path home = Path.of(SledgeVote.class.getProtectionDomain().getCodeSource().getLocation().toURI());
        try (DirectoryStream<Path> files = Files.newDirectoryStream(home, "SledgeVote*.class")) {
            for (Path file : files) {
                StringWriter text = new StringWriter();
                PrintWriter out = new PrintWriter(text);
                javap.run(out, out, "-c", "-p", "-s", file.toString());
                test.read(file.getFileName().toString().replace(".class", ""), text.toString());
            }
        }
        test.names();
        test.depth();
        test.libraryCalls();
        test.objects();
        CHECKS.finish();
    }

    private void read(String owner, String text) {
        String name = "";
        String method = "";
        for (String line : text.split("\n")) {
            Matcher head = METHOD.matcher(line);
            Matcher descriptor = DESCRIPTOR.matcher(line);
            Matcher call = CALL.matcher(line);
            Matcher object = MADE.matcher(line);
            CHECKS.due("nothing is caught in " + owner, line.contains("Exception table"), false);
            if (line.equals("  static {};")) {
                name = "<clinit>";
            } else if (head.matches()) {
                name = head.group(1).startsWith("SledgeVote") ? "<init>" : head.group(1);
            } else if (descriptor.matches()) {
                method = owner + "." + name + ":" + descriptor.group(1);
                calls.putIfAbsent(method, new TreeSet<>());
            } else if (call.find()) {
                String to = call.group(1).replace("\"", "");
                to = to.substring(0, to.indexOf(':')).contains(".") ? to : owner + "." + to;
                if (to.startsWith("SledgeVote")) {
                    calls.get(method).add(to);
                } else {
                    library.add(to.substring(0, to.indexOf(':')));
                }
            } else if (object.matches()) {
                made.computeIfAbsent(method, m -> new ArrayList<>()).add(object.group(1));
            }
        }
    }

    private static String shortName(String method) {
        return method.substring(method.lastIndexOf('.', method.indexOf(':')) + 1, method.indexOf(':'));
    }

    /** Rule 1: no method of the classes inside bears the name of one of the face either. */
    private void names() {
        Set<String> face = new HashSet<>();
        for (var m : SledgeVote.class.getMethods()) {
            if (m.getDeclaringClass() == SledgeVote.class) {
                face.add(m.getName());
            }
        }
        for (String method : calls.keySet()) {
            if (!method.startsWith("SledgeVote.")) {
                CHECKS.due(method + " bears a name of its own", face.contains(shortName(method)), false);
            }
        }
        CHECKS.due("the face was read", face.size(), 41);
        CHECKS.due("the methods were read", calls.size() > 100, true);
    }

    /** Those that can call one another count as one: they are recursion. */
    private void depth() {
        Map<String, Set<String>> reach = new HashMap<>();
        for (String method : calls.keySet()) {
            reach.put(method, reached(method));
        }
        Map<String, Integer> known = new HashMap<>();
        Set<String> within = new TreeSet<>();
        for (String method : calls.keySet()) {
            CHECKS.due(method + " goes at most eight deep", deep(method, reach, known) <= MOST_DEEP, true);
            if (reach.get(method).contains(method)) {
                within.add(shortName(method));
            }
        }
        Set<String> readers = Set.of("readCondition", "readTruth", "readUnit", "readSum", "readTerm", "readAtom");
        CHECKS.due("only the readers of laws, which carry their depth, call themselves: " + within,
            within.equals(new TreeSet<>(readers)), true);
    }

    private Set<String> reached(String from) {
        Set<String> all = new HashSet<>();
        List<String> open = new ArrayList<>(calls.get(from));
        while (!open.isEmpty()) {
            String next = open.remove(open.size() - 1);
            if (calls.containsKey(next) && all.add(next)) {
                open.addAll(calls.get(next));
            }
        }
        return all;
    }

    private int deep(String method, Map<String, Set<String>> reach, Map<String, Integer> known) {
        if (!known.containsKey(method)) {
            int most = 0;
            for (String mate : calls.keySet()) {
                boolean together = mate.equals(method)
                    || reach.get(method).contains(mate) && reach.get(mate).contains(method);
                for (String to : together ? calls.get(mate) : Set.<String>of()) {
                    boolean back = !calls.containsKey(to) || to.equals(method) || reach.get(to).contains(method);
                    most = back ? most : Math.max(most, deep(to, reach, known));
                }
            }
            known.put(method, most + 1);
        }
        return known.get(method);
    }

    /** Rule 4: nothing of the library but what it lists. */
    private void libraryCalls() {
        for (String call : library) {
            CHECKS.due(call + " may be called", LIBRARY.contains(call), true);
        }
    }

    /** Rule 12: behind the constructors nothing is made but a law with its steps and the exception of member. */
    private void objects() {
        for (String method : made.keySet()) {
            String name = shortName(method);
            boolean maker = Set.of("<init>", "<clinit>", "make", "member").contains(name);
            CHECKS.due(method + " makes " + made.get(method), maker, true);
        }
    }
}

import java.io.PrintWriter;
import java.io.StringWriter;
import java.util.ArrayList;
import java.util.List;
import java.util.Map;
import java.util.Set;
import java.util.TreeMap;
import java.util.TreeSet;
import java.util.regex.Matcher;
import java.util.regex.Pattern;
import java.util.spi.ToolProvider;

/** The methods of classes as javac left them, read from what javap prints. */
final class Compiled {
    private static final Pattern CLASS = Pattern.compile("^(?:[a-z]+ )*class ([\\w$]+).*\\{$");
    private static final Pattern METHOD = Pattern.compile("^  (?:\\S.* )?([\\w$]+)\\(.*\\);$");
    private static final Pattern INSTRUCTION = Pattern.compile("^ +\\d+: ([a-z]\\w*)(.*)$");
    private static final Pattern CALLED = Pattern.compile("// (?:Interface)?Method (\\S+?):\\(");
    private static final Pattern LINE = Pattern.compile("^ +line (\\d+): \\d+$");

    /** What a method does and the lines of the source that it stands on. */
    static final class Body {
        final Set<String> instructions = new TreeSet<>();
        final Set<String> called = new TreeSet<>();
        int firstLine = Integer.MAX_VALUE;
        int lastLine = 0;
    }

    /** By class and name, as FluxModes.solve; a constructor is named "<init>" with its quotes, as in calls. */
    final Map<String, Body> methods = new TreeMap<>();

    Compiled(List<String> classes) {
        List<String> asked = new ArrayList<>(List.of("-c", "-l", "-p", "-cp", System.getProperty("java.class.path")));
        asked.addAll(classes);
        StringWriter printed = new StringWriter();
        ToolProvider javap = ToolProvider.findFirst("javap").orElseThrow();
        PrintWriter out = new PrintWriter(printed);
        if (javap.run(out, out, asked.toArray(new String[0])) != 0) {
            throw new IllegalStateException(printed.toString());
        }
        read(printed.toString().lines().toList());
    }

    private void read(List<String> lines) {
        String owner = "";
        Body body = new Body();
        for (String line : lines) {
            Matcher opens = CLASS.matcher(line);
            Matcher heads = METHOD.matcher(line);
            if (opens.matches()) {
                owner = opens.group(1);
            } else if (heads.matches()) {
                String name = heads.group(1).equals(owner) ? "\"<init>\"" : heads.group(1);
                body = methods.computeIfAbsent(owner + "." + name, n -> new Body());
            } else {
                readCode(owner, body, line);
            }
        }
    }

    private static void readCode(String owner, Body body, String line) {
        Matcher does = INSTRUCTION.matcher(line);
        Matcher stands = LINE.matcher(line);
        if (does.matches()) {
            body.instructions.add(does.group(1));
            Matcher calls = CALLED.matcher(does.group(2));
            if (calls.find()) {
                String name = calls.group(1);
                body.called.add(name.contains(".") ? name : owner + "." + name);
            }
        } else if (stands.matches()) {
            body.firstLine = Math.min(body.firstLine, Integer.parseInt(stands.group(1)));
            body.lastLine = Math.max(body.lastLine, Integer.parseInt(stands.group(1)));
        } else if (line.contains("Exception table:")) {
            body.instructions.add("catch");
        }
    }

    /** How many of these methods stand open at once below this one, itself counted; more than most if there is no end. */
    int depth(String method, int most) {
        if (!methods.containsKey(method)) {
            return 0;
        }
        int deepest = 0;
        for (String next : methods.get(method).called) {
            deepest = Math.max(deepest, most == 0 ? 0 : depth(next, most - 1));
        }
        return deepest + 1;
    }
}

import java.io.IOException;
import java.nio.file.Files;
import java.nio.file.Path;
import java.util.ArrayList;
import java.util.LinkedHashMap;
import java.util.LinkedHashSet;
import java.util.List;
import java.util.Map;
import java.util.Set;
import java.util.regex.Matcher;
import java.util.regex.Pattern;

/** The text of the class keeps to LANGUAGE.md: its words, its library, how long methods are, how deep calls go. */
public final class LanguageTest {
    private static final Pattern METHOD = Pattern.compile(
        "(?m)^( {4}| {8})((?:public |private |static |final )*)(?:(?:int|long|boolean|void)(?:\\[\\])* )?(\\w+)"
        + "\\(([^()]*)\\) \\{$");
    private static final Pattern CALL = Pattern.compile("(new )?\\b(?:(\\w+)\\.)?(\\w+)\\(");
    private static final Pattern LOOP = Pattern.compile("\\b(?:for|while) \\(.*");
    private static final List<String> LIBRARY = List.of("Integer.bitCount", "Math.max", "Math.min", "System.arraycopy");
    private static final List<String> NO_CALLS = List.of("for", "while", "if", "switch", "return");
    private static final List<String> LEFT_OUT = List.of("import", "package", "throw", "throws", "try", "catch",
        "finally", "synchronized", "assert", "instanceof", "abstract", "interface", "enum", "record", "float", "double",
        "Object", "String", "StringBuilder", "Integer\\.valueOf", "\\w+Exact", "equals", "hashCode", "toString",
        "protected", "native", "volatile", "transient", "var", "yield", "do");
    private static final int MOST_LINES = 60;
    private static final int MOST_DEEP = 8;
    private static final int MOST_CLASSES = 12;
    private static final int MOST_PARAMETERS = 7;
    private static int wrong = 0;

    private static void hold(String what, boolean so) {
        if (!so) {
            wrong++;
            System.out.println("not so: " + what);
        }
    }

    /** The source without comments; the signs in quotes become '0'. */
    private static String bare(String source) {
        String bare = source.replaceAll("(?s)/\\*.*?\\*/", "").replaceAll("//[^\n]*", "");
        return bare.replaceAll("'[^'\\\\]'", "'0'");
    }

    private static void words(String source, String bare) {
        hold("signs 1 to 127", source.chars().allMatch(c -> c > 0 && c < 128));
        for (String word : LEFT_OUT) {
            hold("no " + word, !Pattern.compile("\\b" + word + "\\b").matcher(bare).find());
        }
        for (String sign : List.of("->", "::", "\"", "@", "<>", "?>", ">>>=")) {
            hold("no " + sign, !bare.contains(sign));
        }
        hold("no static initialiser", !Pattern.compile("static \\{").matcher(bare).find());
    }

    private static void classes(String bare) {
        int classes = 0;
        Matcher m = Pattern.compile("(?m)^(.*)\\bclass (\\w+)(.*)$").matcher(bare);
        while (m.find()) {
            classes++;
            String before = m.group(1);
            boolean outer = m.group(2).equals("WindowTaken");
            hold(m.group(2) + " is public and final, or static inside",
                outer ? before.equals("public final ") : before.equals("    private static final "));
            hold(m.group(2) + " extends nothing", m.group(3).equals(" {"));
        }
        hold(classes + " classes", classes >= 1 && classes <= MOST_CLASSES);
    }

    /** Each method's text by its class and name; names that bear several texts have them all. */
    private static Map<String, String> methods(String bare) {
        Map<String, String> methods = new LinkedHashMap<>();
        Matcher m = METHOD.matcher(bare);
        while (m.find()) {
            String end = "\n" + m.group(1) + "}\n";
            int to = bare.indexOf(end, m.end());
            hold(m.group(3) + " ends", to >= 0);
            String body = bare.substring(m.end(), Math.max(m.end(), to));
            hold(m.group(3) + " has at most " + MOST_LINES + " lines", body.split("\n").length <= MOST_LINES);
            hold(m.group(3) + " takes at most " + MOST_PARAMETERS, m.group(4).split(",").length <= MOST_PARAMETERS);
            String inside = m.group(1).length() > 4 ? classAt(bare, m.start()) : "WindowTaken";
            hold(m.group(3) + " has one text", methods.put(inside + "." + m.group(3), body) == null);
        }
        return methods;
    }

    private static String classAt(String bare, int place) {
        String name = "";
        Matcher m = Pattern.compile("class (\\w+)").matcher(bare);
        while (m.find() && m.start() < place) {
            name = m.group(1);
        }
        return name;
    }

    /** The methods that a text calls; a call on an object counts for each inner class that has such a one. */
    private static Set<String> called(String owner, String body, Set<String> known) {
        Set<String> called = new LinkedHashSet<>();
        Matcher m = CALL.matcher(body);
        while (m.find()) {
            String on = m.group(2);
            String name = m.group(3);
            if (on == null && NO_CALLS.contains(name)) {
                continue;
            }
            if (LIBRARY.contains(on + "." + name)) {
                called.add(on + "." + name);
                continue;
            }
            int before = called.size();
            for (String method : known) {
                boolean own = method.equals((m.group(1) != null ? name : owner) + "." + name);
                boolean others = on != null && method.endsWith("." + name) && !method.startsWith("WindowTaken.");
                if (on == null ? own : others) {
                    called.add(method);
                }
            }
            hold(owner + " calls " + m.group() + "..), which is no one's", called.size() > before
                || known.stream().anyMatch(k -> k.endsWith("." + name)));
        }
        return called;
    }

    /** How deep calls go from a method on, itself included; more than is allowed if one comes back to itself. */
    private static int depth(String method, Map<String, Set<String>> calls, List<String> open) {
        if (open.contains(method)) {
            hold("no recursion: " + open + " " + method, false);
            return MOST_DEEP + 1;
        }
        open.add(method);
        int most = 0;
        for (String next : calls.getOrDefault(method, Set.of())) {
            most = Math.max(most, depth(next, calls, open));
        }
        open.remove(open.size() - 1);
        return most + 1;
    }

    private static void depths(Map<String, String> methods) {
        Map<String, Set<String>> calls = new LinkedHashMap<>();
        for (Map.Entry<String, String> method : methods.entrySet()) {
            String owner = method.getKey().substring(0, method.getKey().indexOf('.'));
            calls.put(method.getKey(), called(owner, method.getValue(), methods.keySet()));
        }
        Set<String> reached = new LinkedHashSet<>();
        for (String method : methods.keySet()) {
            int depth = depth(method, calls, new ArrayList<>());
            hold(method + " goes " + depth + " deep", depth <= MOST_DEEP);
            reached.addAll(calls.get(method));
        }
        hold("terrace reaches pull", depth("WindowTaken.terrace", calls, new ArrayList<>()) > 5);
        for (String method : methods.keySet()) {
            if (!method.startsWith("WindowTaken.")) {
                hold(method + " is called", reached.contains(method));
            }
        }
    }

    /** Each loop has a bound in its own line: it is a "for" with a comparison, or counts down to one. */
    private static void loops(String bare) {
        Matcher m = LOOP.matcher(bare);
        int loops = 0;
        while (m.find()) {
            loops++;
            hold("a bound in " + m.group(), Pattern.compile("\\w (<|<=|>|>=) \\w").matcher(m.group()).find());
        }
        hold("loops were found", loops > 20);
    }

    /** What is made: rows in constructors and the classes' objects, nowhere else. */
    private static void made(Map<String, String> methods) {
        for (Map.Entry<String, String> method : methods.entrySet()) {
            String name = method.getKey();
            boolean constructor = name.substring(0, name.indexOf('.')).equals(name.substring(name.indexOf('.') + 1));
            hold(name + " makes nothing", constructor || !method.getValue().contains("new "));
        }
    }

    public static void main(String[] args) throws IOException {
        String source = Files.readString(Path.of("src/main/java/WindowTaken.java"));
        String bare = bare(source);
        words(source, bare);
        classes(bare);
        Map<String, String> methods = methods(bare);
        hold("methods were found: " + methods.size(), methods.size() > 100);
        depths(methods);
        loops(bare);
        made(methods);
        System.out.println(wrong == 0 ? methods.size() + " methods keep to the language" : wrong + " things do not");
        if (wrong != 0) {
            System.exit(1);
        }
    }
}

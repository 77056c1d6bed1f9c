import java.lang.reflect.Method;
import java.util.ArrayList;
import java.util.HashMap;
import java.util.List;
import java.util.Map;

/** Calls told as text, one a line, on a new object; and a portrait of all that later calls can tell of an object. */
final class Calls {
    private static final Map<String, Method> METHODS = new HashMap<>();
    private static final List<String> CHANGES = List.of("feed", "terrace", "tell", "pane", "looker", "stands", "wall",
        "worth", "law", "days", "back", "row", "judge", "clear", "image", "restore", "again");
    private static final int MOST_CALLS = 512;

    static {
        for (Method m : WindowTaken.class.getMethods()) {
            if (m.getDeclaringClass() == WindowTaken.class) {
                METHODS.put(m.getName(), m);
            }
        }
    }

    /** An object and how often it has been called. */
    static final class Used {
        final WindowTaken window = new WindowTaken();
        int calls = 0;

        long ask(String name, int... numbers) {
            Method m = METHODS.get(name);
            if (m == null || m.getParameterCount() != numbers.length) {
                throw new IllegalStateException("no call " + name + " of " + numbers.length + " numbers");
            }
            calls++;
            if (calls > MOST_CALLS) {
                throw new IllegalStateException("a test calls an object more than " + MOST_CALLS + " times");
            }
            Object[] given = new Object[numbers.length];
            for (int i = 0; i < numbers.length; i++) {
                given[i] = numbers[i];
            }
            try {
                return ((Number) m.invoke(window, given)).longValue();
            } catch (ReflectiveOperationException e) {
                throw new IllegalStateException(name + " threw", e);
            }
        }

        long tell(String text) {
            for (int i = 0; i < text.length(); i++) {
                ask("feed", text.charAt(i));
            }
            return ask("terrace");
        }
    }

    /** A line of a script: "name numbers = answer", "tell text = answer", "again times name numbers". */
    private static final class Line {
        final String told;
        final String name;
        final String text;
        final int times;
        final int[] numbers;
        final boolean due;
        final long answer;

        Line(String line) {
            told = line;
            int equals = line.indexOf(" = ");
            due = equals >= 0;
            answer = due ? answer(line.substring(equals + 3).trim()) : 0;
            String[] words = (due ? line.substring(0, equals) : line).trim().split(" +");
            boolean again = words[0].equals("again");
            times = again ? number(words[1]) : 1;
            int at = again ? 2 : 0;
            name = words[at];
            text = name.equals("tell") ? words[at + 1] : "";
            numbers = new int[name.equals("tell") ? 0 : words.length - at - 1];
            for (int i = 0; i < numbers.length; i++) {
                numbers[i] = number(words[at + 1 + i]);
            }
        }

        long ask(Used x) {
            long got = 0;
            for (int i = 0; i < times; i++) {
                got = name.equals("tell") ? x.tell(text) : x.ask(name, numbers);
            }
            return got;
        }

        boolean isFault() {
            return name.equals("tell") && due && answer <= -1000;
        }

        /** Whether the document lets the call change anything but how many refusals there were. */
        boolean changes() {
            return CHANGES.contains(name) && !isFault() && refusal(answer) == 0;
        }
    }

    static int number(String word) {
        return word.equals("MIN") ? Integer.MIN_VALUE : word.equals("MAX") ? Integer.MAX_VALUE : Integer.parseInt(word);
    }

    /** "no1" is a refusal -1 told as a long. */
    private static long answer(String word) {
        return word.startsWith("no") ? 4000000000000000000L + Integer.parseInt(word.substring(2)) : Long.parseLong(word);
    }

    /** The number of a refusal (1 .. 6) that an answer tells; 0 if it tells none. */
    static int refusal(long answer) {
        long as = answer > 4000000000000000000L ? 4000000000000000000L - answer : answer;
        return as <= -1 && as >= -6 ? (int) -as : 0;
    }

    private static List<Line> lines(String script) {
        List<Line> lines = new ArrayList<>();
        for (String line : script.split("\n")) {
            if (!line.isBlank() && !line.trim().startsWith("#")) {
                lines.add(new Line(line.trim()));
            }
        }
        return lines;
    }

    /** The portrait of a new object behind a script. */
    static String portraitBehind(String script) {
        List<Line> lines = lines(script);
        return portrait(after(lines, lines.size()));
    }

    private static Used after(List<Line> lines, int many) {
        Used x = new Used();
        for (int i = 0; i < many; i++) {
            lines.get(i).ask(x);
        }
        return x;
    }

    /**
     * Asks a script line by line on one object; answers what is not as it is due. Where a call may change nothing
     * (it is refused, a fault, or only asks), the portraits before and behind it must be alike.
     */
    static List<String> run(String script) {
        List<String> wrong = new ArrayList<>();
        List<Line> lines = lines(script);
        Used x = new Used();
        for (int i = 0; i < lines.size(); i++) {
            Line line = lines.get(i);
            long got = line.ask(x);
            if (line.due && got != line.answer) {
                wrong.add(line.told + ": answered " + got);
            }
            if (line.due && !line.changes()) {
                alike(lines, i, wrong);
            }
        }
        return wrong;
    }

    private static void alike(List<Line> lines, int at, List<String> wrong) {
        Line line = lines.get(at);
        Used before = after(lines, at);
        Used behind = after(lines, at + 1);
        long[] refusedBefore = refusals(before);
        long[] refusedBehind = refusals(behind);
        for (int no = 1; no <= 6; no++) {
            long more = line.name.equals("tell") || refusal(line.answer) != no ? 0 : 1;
            if (refusedBehind[no] - refusedBefore[no] != more) {
                wrong.add(line.told + ": refusals -" + no + " were " + refusedBefore[no] + ", are " + refusedBehind[no]);
            }
        }
        String was = portrait(before);
        String is = portrait(behind);
        if (!was.equals(is)) {
            wrong.add(line.told + ": was " + was + "\n  is " + is);
        }
    }

    static long[] refusals(Used x) {
        long[] refused = new long[7];
        for (int no = 1; no <= 6; no++) {
            refused[no] = x.ask("count", 10 + no);
        }
        return refused;
    }

    /** All that can be found out of an object; it is of no use behind that. */
    static String portrait(Used x) {
        StringBuilder b = new StringBuilder();
        counted(x, b, 10);
        long lookers = x.ask("count", 1);
        for (int looker = 0; looker < lookers; looker++) {
            b.append(" looker ").append(x.ask("lookerOf", looker, 0)).append(',').append(x.ask("lookerOf", looker, 1));
            for (int view = 0; view < 8; view++) {
                b.append(',').append(x.ask("counts", looker, view, 0));
            }
        }
        posted(x, b);
        b.append(" row ").append(x.ask("whichLaw")).append(',').append(x.ask("judge", 0));
        for (int left = (int) x.ask("count", 9); left > 0; left--) {
            b.append(" back ").append(x.ask("back"));
            counted(x, b, 7);
            b.append(',').append(x.ask("worth", 2, 1)).append(x.ask("back"));
        }
        priced(x, b);
        b.append(" restored ").append(x.ask("restore"));
        counted(x, b, 7);
        priced(x, b);
        return b.append(" letters ").append(x.ask("terrace")).toString();
    }

    private static void counted(Used x, StringBuilder b, int many) {
        b.append(" counts");
        for (int what = 0; what < many; what++) {
            b.append(',').append(x.ask("count", what));
        }
        b.append(" panes");
        for (int pane = (int) x.ask("count", 0) - 1; pane >= 0; pane--) {
            b.append(',').append(x.ask("paneOf", pane, 0)).append(':').append(x.ask("paneOf", pane, 1));
        }
    }

    /** The rosters: every hour of the first two lookers, and how many hours the others stand. */
    private static void posted(Used x, StringBuilder b) {
        for (int looker = (int) x.ask("count", 1) - 1; looker >= 0; looker--) {
            b.append(" at,").append(x.ask("lookerOf", looker, 2)).append(':').append(x.ask("wasted", looker, 1));
            for (int hour = 0; hour < 24 && looker < 2; hour++) {
                b.append(',').append(x.ask("roster", looker, hour));
            }
        }
    }

    private static void priced(Used x, StringBuilder b) {
        b.append(" worths");
        for (int view = 0; view < 8; view++) {
            b.append(',').append(x.ask("worth", view, 0));
        }
    }
}

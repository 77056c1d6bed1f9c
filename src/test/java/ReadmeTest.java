import java.io.IOException;
import java.nio.file.Files;
import java.nio.file.Path;
import java.util.regex.Matcher;
import java.util.regex.Pattern;

/** The calls that README.md shows, one after the other on one object, answer what it shows behind them. */
public final class ReadmeTest {
    private static final Pattern CALL = Pattern.compile("(?m)^w\\.(\\w+)\\((.*)\\);(?: *// (-?\\d+)\\b.*)?$");

    private static int number(String word) {
        return word.startsWith("'") ? word.charAt(1) : Integer.parseInt(word);
    }

    private static int[] numbers(String list) {
        String[] words = list.isBlank() ? new String[0] : list.split(", ");
        int[] numbers = new int[words.length];
        for (int i = 0; i < words.length; i++) {
            numbers[i] = number(words[i]);
        }
        return numbers;
    }

    public static void main(String[] args) throws IOException {
        Calls.Used w = new Calls.Used();
        Matcher m = CALL.matcher(Files.readString(Path.of("README.md")));
        int calls = 0;
        int wrong = 0;
        while (m.find()) {
            calls++;
            long got = w.ask(m.group(1), numbers(m.group(2)));
            if (m.group(3) == null || got != Long.parseLong(m.group(3))) {
                wrong++;
                System.out.println(m.group() + ": answered " + got);
            }
        }
        System.out.println(calls + " calls of README.md, " + wrong + " not as shown");
        if (wrong != 0 || calls < 40) {
            System.exit(1);
        }
    }
}

import java.io.IOException;
import java.nio.file.Files;
import java.nio.file.Path;
import java.util.regex.Matcher;
import java.util.regex.Pattern;

/** Every call that README.md shows with its answer; run from the project's folder. */
public final class ReadmeTest {
    private static final int CALLS_SHOWN = 18;
    private static final Pattern NEW = Pattern.compile("TradeFloor floor = new TradeFloor\\(\\);");
    private static final Pattern SAY = Pattern.compile("say\\(floor, \"([^\"]*)\"\\); +// (-?\\d+)\\b.*");
    private static final Pattern CALL = Pattern.compile("floor\\.(\\w+)\\(([^)]*)\\); +// (-?\\d+)\\b.*");

    public static void main(String[] args) throws IOException {
        Desk desk = null;
        int shown = 0;
        for (String row : Files.readAllLines(Path.of("README.md"))) {
            Matcher say = SAY.matcher(row);
            Matcher call = CALL.matcher(row);
            if (NEW.matcher(row).matches()) {
                desk = new Desk("README");
            } else if (say.matches()) {
                desk.line(say.group(1), Integer.parseInt(say.group(2)));
                shown++;
            } else if (call.matches()) {
                desk.due(row, answer(desk.floor, call.group(1), numbers(call.group(2))), Long.parseLong(call.group(3)));
                shown++;
            }
        }
        Desk.check(shown == CALLS_SHOWN, "README.md shows " + shown + " calls with answers, not " + CALLS_SHOWN);
        Desk.finish();
    }

    private static int[] numbers(String text) {
        String[] words = text.isEmpty() ? new String[0] : text.split(", ");
        int[] numbers = new int[words.length];
        for (int i = 0; i < words.length; i++) {
            numbers[i] = Integer.decode(words[i]);
        }
        return numbers;
    }

    private static long answer(TradeFloor floor, String method, int[] n) {
        switch (method) {
            case "feed": return floor.feed(n[0]);
            case "line": return floor.line();
            case "order": return floor.order(n[0], n[1]);
            case "trader": return floor.trader(n[0], n[1]);
            case "level": return floor.level(n[0], n[1], n[2]);
            case "trade": return floor.trade(n[0], n[1]);
            case "count": return floor.count(n[0]);
            default: throw new IllegalArgumentException(method);
        }
    }
}

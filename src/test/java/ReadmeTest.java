import java.nio.file.Files;
import java.nio.file.Path;
import java.util.HashMap;
import java.util.Map;
import java.util.regex.Matcher;
import java.util.regex.Pattern;

/** The examples of README.md, one behind the other on one object: each answer is the one that stands behind it. */
final class ReadmeTest {
    private static final Pattern CALL = Pattern.compile("(?:int (\\w+) = )?hall\\.(\\w+)\\(([^)]*)\\);\\s*// (-?\\w+)(?::.*)?");
    private static final int CALLS_AT_LEAST = 50;

    private final VoucherHall hall = new VoucherHall();
    private final Map<String, Integer> kept = new HashMap<>();
    private int calls = 0;

    private ReadmeTest() {
    }

    public static void main(String[] args) throws Exception {
        ReadmeTest test = new ReadmeTest();
        boolean within = false;
        for (String row : Files.readAllLines(Path.of("README.md"))) {
            if (row.startsWith("```")) {
                within = row.equals("```java");
            } else if (within && !row.startsWith("VoucherHall hall")) {
                test.row(row);
            }
        }
        Due.holds(test.calls + " examples were found", test.calls >= CALLS_AT_LEAST);
        Due.end("ReadmeTest");
    }

    private void row(String row) {
        Matcher call = CALL.matcher(row);
        if (!call.matches()) {
            Due.holds("'" + row + "' is a call with its answer", false);
            return;
        }
        StringBuilder told = new StringBuilder(call.group(2));
        for (String arg : call.group(3).isEmpty() ? new String[0] : call.group(3).split(", ")) {
            told.append(' ').append(value(arg));
        }
        int answer = Face.call(hall, told.toString());
        Due.due(row, answer, value(call.group(4)));
        kept.put(call.group(1), answer);
        calls++;
    }

    private int value(String word) {
        switch (word.replace("VoucherHall.", "")) {
            case "BAD": return VoucherHall.BAD;
            case "NO": return VoucherHall.NO;
            case "FULL": return VoucherHall.FULL;
            case "SPENT": return VoucherHall.SPENT;
            case "NONE": return VoucherHall.NONE;
            case "NOTHING": return VoucherHall.NOTHING;
            case "INDEX": return VoucherHall.INDEX;
            case "SIZE": return VoucherHall.SIZE;
            default: return kept.containsKey(word) ? kept.get(word) : Integer.decode(word);
        }
    }
}

import java.lang.reflect.Method;
import java.nio.file.Files;
import java.nio.file.Path;
import java.util.regex.Matcher;
import java.util.regex.Pattern;

/** The calls that README.md shows answer what it tells behind them. */
public final class ReadmeTest {
    private static final Pattern TEXT = Pattern.compile("for \\(byte b : \"([^\"]*)\"\\.getBytes\\(\\)\\) x\\.type\\(b\\);");
    private static final Pattern CALL = Pattern.compile("x\\.(\\w+)\\(([-0-9, ]*)\\); +// ([A-Z]+|-?\\d+)\\b.*");

    private static long answer(WordFletchers x, String name, String told) throws Exception {
        String[] numbers = told.isBlank() ? new String[0] : told.split(", ");
        Class<?>[] types = new Class<?>[numbers.length];
        Object[] arguments = new Object[numbers.length];
        for (int i = 0; i < numbers.length; i++) {
            types[i] = int.class;
            arguments[i] = Integer.valueOf(numbers[i]);
        }
        Method method = WordFletchers.class.getMethod(name, types);
        return ((Number) method.invoke(x, arguments)).longValue();
    }

    private static long told(String answer) throws Exception {
        return Character.isLetter(answer.charAt(0)) ? WordFletchers.class.getField(answer).getInt(null) : Long.parseLong(answer);
    }

    public static void main(String[] args) throws Exception {
        String readme = Files.readString(Path.of("README.md"));
        int from = readme.indexOf("```java\n"), to = readme.indexOf("```\n", from + 1);
        WordFletchers x = null;
        int calls = 0, wrong = 0;
        for (String line : readme.substring(from + 8, to).split("\n")) {
            Matcher text = TEXT.matcher(line), call = CALL.matcher(line);
            if (line.equals("WordFletchers x = new WordFletchers();")) {
                x = new WordFletchers();
            } else if (text.matches()) {
                for (byte b : text.group(1).getBytes()) x.type(b);
            } else if (!call.matches()) {
                wrong++;
                System.out.println("README.md has a line that tells no answer: " + line);
            } else {
                calls++;
                long got = answer(x, call.group(1), call.group(2));
                if (got != told(call.group(3))) {
                    wrong++;
                    System.out.println(line + " answered " + got);
                }
            }
        }
        System.out.println(calls + " calls of README.md, " + wrong + " not as told");
        if (wrong != 0 || calls == 0) System.exit(1);
    }
}

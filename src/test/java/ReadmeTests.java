import java.io.IOException;
import java.lang.reflect.InvocationTargetException;
import java.lang.reflect.Method;
import java.nio.file.Files;
import java.nio.file.Path;
import java.util.ArrayList;
import java.util.List;
import java.util.regex.Matcher;
import java.util.regex.Pattern;

/** What README.md shows must be so: each call answers what stands behind it, and each call of the face is named. */
public final class ReadmeTests {
    private static final Pattern CALL = Pattern.compile("x\\.(\\w+)\\((.*)\\); +// (\\S+?):?( .*)?");
    private static final Pattern TELL = Pattern.compile("tell\\(x, \"(.*)\"\\); +// (\\S+?):?( .*)?");

    private static int passed = 0;
    private static int failed = 0;

    public static void main(String[] args) throws IOException {
        String page = Files.readString(Path.of("README.md"));
        List<List<String>> blocks = blocksOf(page);
        check(blocks.size() == 2, "two pieces of Java");
        helpersAreThese(blocks.get(0));
        callsAnswer(blocks.get(1));
        for (Method each : GrownWords.class.getDeclaredMethods()) {
            if (java.lang.reflect.Modifier.isPublic(each.getModifiers())) {
                check(page.contains("`" + each.getName() + "`"), each.getName() + " is named");
            }
        }
        System.out.println(passed + " passed, " + failed + " failed");
        if (failed > 0) {
            System.exit(1);
        }
    }

    private static void check(boolean holds, String what) {
        if (holds) {
            passed++;
        } else {
            failed++;
            System.out.println("README.md: not so: " + what);
        }
    }

    private static List<List<String>> blocksOf(String page) {
        List<List<String>> blocks = new ArrayList<>();
        boolean inside = false;
        for (String line : page.split("\n")) {
            if (line.startsWith("```")) {
                inside = line.equals("```java");
                if (inside) {
                    blocks.add(new ArrayList<>());
                }
            } else if (inside) {
                blocks.get(blocks.size() - 1).add(line);
            }
        }
        return blocks;
    }

    private static void helpersAreThese(List<String> lines) throws IOException {
        String source = Files.readString(Path.of("src/test/java/ReadmeTests.java"));
        StringBuilder piece = new StringBuilder();
        for (String line : lines) {
            piece.append(line.isEmpty() ? "" : "    ").append(line).append('\n');
        }
        check(source.contains(piece), "tell and four are those of ReadmeTests");
    }

    private static void callsAnswer(List<String> lines) {
        GrownWords x = new GrownWords();
        check(lines.get(0).equals("GrownWords x = new GrownWords();"), lines.get(0));
        for (String line : lines.subList(1, lines.size())) {
            Matcher told = TELL.matcher(line);
            Matcher called = CALL.matcher(line);
            if (told.matches()) {
                check(told.group(2).equals("" + tell(x, told.group(1))), line);
            } else if (called.matches()) {
                String answer = answerOf(x, called.group(1), called.group(2));
                check(answer.equals("null") || answer.equals(called.group(3)), line + " - answered " + answer);
            } else {
                check(false, "a call: " + line);
            }
        }
    }

    /** Of a call that answers nothing "null". */
    private static String answerOf(GrownWords x, String name, String args) {
        List<Integer> numbers = new ArrayList<>();
        for (String arg : args.isEmpty() ? new String[0] : args.split(", ")) {
            numbers.add(arg.equals("GrownWords.NONE") ? GrownWords.NONE : Integer.parseInt(arg));
        }
        for (Method each : GrownWords.class.getMethods()) {
            if (each.getName().equals(name) && each.getParameterCount() == numbers.size()) {
                return answerOf(x, each, numbers);
            }
        }
        return "no such call";
    }

    private static String answerOf(GrownWords x, Method call, List<Integer> numbers) {
        try {
            return "" + call.invoke(x, numbers.toArray());
        } catch (InvocationTargetException e) {
            return e.getCause().getClass().getSimpleName();
        } catch (IllegalAccessException e) {
            return "not public";
        }
    }

    /** 0, or the FAULT (then x.fault() is its place); NONE, if there is no room: the tape holds 700 bytes. */
    static int tell(GrownWords x, String text) {
        if (x.count(9) > 0 || text.length() > 700) {
            return GrownWords.NONE;
        }
        for (int i = 0; i < text.length(); i += 20) {
            x.feed(four(text, i), four(text, i + 4), four(text, i + 8), four(text, i + 12), four(text, i + 16));
        }
        return x.baggage(text.length());
    }

    /** Four signs as one number, the first one highest; blanks behind the text. */
    static int four(String text, int from) {
        int number = 0;
        for (int i = from; i < from + 4; i++) {
            number = number << 8 | (i < text.length() ? text.charAt(i) : ' ');
        }
        return number;
    }
}

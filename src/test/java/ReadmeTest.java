import java.io.IOException;
import java.lang.reflect.InvocationTargetException;
import java.lang.reflect.Method;
import java.nio.file.Files;
import java.nio.file.Path;
import java.util.ArrayList;
import java.util.List;
import java.util.Set;
import java.util.TreeSet;
import java.util.regex.Matcher;
import java.util.regex.Pattern;

/** Makes the calls that README.md shows, line by line, and holds the answers against those that it shows. */
public final class ReadmeTest {
    private static final Check CHECK = new Check();
    private static final String MADE = "TableMerge merge = new TableMerge();";
    private static final Pattern TOLD = Pattern.compile("tell\\(merge, \"(.*)\"\\); +// (\\w+)(:? .*)?");
    private static final Pattern CALL = Pattern.compile("merge\\.(\\w+)\\(([-\\w, ]*)\\);( +// (.*))?");

    private static TableMerge merge = new TableMerge();
    private static int calls;
    private static final Set<String> SHOWN = new TreeSet<>();

    // The method of README.md, which must stand there as it stands here.
    static int tell(TableMerge merge, String text) {
        for (int i = 0; i < text.length(); i += 20) {
            int[] five = new int[5];
            for (int j = 0; j < 20; j++) {
                five[j / 4] = five[j / 4] << 8 | (i + j < text.length() ? text.charAt(i + j) : ' ');
            }
            merge.feed(five[0], five[1], five[2], five[3], five[4]);
        }
        return merge.tables(text.length());
    }

    public static void main(String[] args) throws IOException {
        List<String> blocks = blocksOf(Files.readString(Path.of("README.md")));
        String own = Files.readString(Path.of("src/test/java/ReadmeTest.java")).replace("\n    ", "\n");
        for (String block : blocks) {
            if (block.startsWith("static int tell")) {
                CHECK.yes("README.md's tell() is the one that is tested", own.contains("\n" + block));
            } else {
                runBlock(block);
            }
        }
        CHECK.yes("blocks of code: " + blocks.size(), blocks.size() >= 7);
        everyMethodIsShown();
        CHECK.end();
    }

    private static List<String> blocksOf(String text) {
        List<String> blocks = new ArrayList<>();
        Matcher m = Pattern.compile("```java\n(.*?)```", Pattern.DOTALL).matcher(text);
        while (m.find()) {
            blocks.add(m.group(1));
        }
        return blocks;
    }

    private static void runBlock(String block) {
        CHECK.yes("a block begins with a new object: " + block, block.startsWith(MADE + "\n"));
        for (String line : block.split("\n")) {
            runLine(line);
        }
        CHECK.yes("calls of one object: " + calls, calls <= 512);
    }

    private static void runLine(String line) {
        Matcher told = TOLD.matcher(line);
        Matcher call = CALL.matcher(line);
        if (line.equals(MADE)) {
            merge = new TableMerge();
            calls = 0;
        } else if (told.matches()) {
            answered(line, String.valueOf(tell(merge, told.group(1))), told.group(2));
        } else if (call.matches()) {
            runCall(line, call.group(1), call.group(2), call.group(4));
        } else {
            CHECK.yes("a line that can't be run: " + line, false);
        }
    }

    private static void runCall(String line, String name, String numbers, String words) {
        calls++;
        SHOWN.add(name);
        String[] parts = numbers.isEmpty() ? new String[0] : numbers.split(", ");
        Object[] arguments = new Object[parts.length];
        Class<?>[] types = new Class<?>[parts.length];
        for (int i = 0; i < parts.length; i++) {
            arguments[i] = Integer.decode(parts[i]);
            types[i] = int.class;
        }
        try {
            Method method = TableMerge.class.getMethod(name, types);
            String got = String.valueOf(method.invoke(merge, arguments));
            if (method.getReturnType() != void.class) {
                answered(line, got, words == null ? "no answer" : words.split("[: ]")[0]);
            }
        } catch (InvocationTargetException e) {
            answered(line, e.getCause().getClass().getSimpleName(), words == null ? "no answer" : words.split("[: ]")[0]);
        } catch (ReflectiveOperationException e) {
            CHECK.yes("no such call: " + line, false);
        }
    }

    private static void answered(String line, String got, String shown) {
        String due = shown.equals("NONE") ? "-1" : shown.equals("EMPTY") ? "9999" : shown;
        CHECK.yes(line + " -- but the answer is " + got, got.equals(due));
    }

    private static void everyMethodIsShown() {
        for (Method method : TableMerge.class.getDeclaredMethods()) {
            if (java.lang.reflect.Modifier.isPublic(method.getModifiers())) {
                CHECK.yes("README.md shows " + method.getName() + "()", SHOWN.contains(method.getName()));
            }
        }
    }
}

import java.lang.reflect.Method;
import java.lang.reflect.Modifier;
import java.nio.file.Files;
import java.nio.file.Path;
import java.util.ArrayList;
import java.util.List;
import java.util.regex.Matcher;
import java.util.regex.Pattern;

/** What README.md says is true of the class as it stands; run where README.md stands. */
public final class ReadmeTest {
    private static final Pattern BLOCK = Pattern.compile("```java\n(.*?)```", Pattern.DOTALL);
    private static final Pattern CALL = Pattern.compile("room\\.(\\w+)\\((.*?)\\); +// ([A-Z]+|\\d+)\\b.*");
    private static final Pattern ROW = Pattern.compile("\\| `(\\w+)\\((.*?)\\)` \\| (.*) \\| ?([A-Z, ]*)\\|");

    public static void main(String[] args) throws Exception {
        Check check = new Check();
        String page = Files.readString(Path.of("README.md"));
        List<String> blocks = new ArrayList<>();
        Matcher block = BLOCK.matcher(page);
        while (block.find()) {
            blocks.add(block.group(1));
        }
        check.due("blocks of code", blocks.size(), 2);
        example(check, blocks.get(0));
        helper(check, blocks.get(1));
        rows(check, page);
        tests(check, page);
        check.end();
    }

    /** Every line but the first is a call with what it answers. */
    private static void example(Check check, String block) throws Exception {
        CoatsOnChairs room = new CoatsOnChairs();
        String[] lines = block.split("\n");
        check.due("the first line makes the object",
            lines[0].equals("CoatsOnChairs room = new CoatsOnChairs();") ? 1 : 0, 1);
        for (int k = 1; k < lines.length; k++) {
            Matcher call = CALL.matcher(lines[k]);
            boolean read = call.matches();
            check.due("a call with its answer: " + lines[k], read ? 1 : 0, 1);
            if (read) {
                check.due(lines[k], answer(room, call.group(1), call.group(2)), due(call.group(3)));
            }
        }
    }

    private static long answer(CoatsOnChairs room, String name, String told) throws Exception {
        Method method = methodOf(name);
        String[] words = told.isEmpty() ? new String[0] : told.split(", ");
        Object[] values = new Object[words.length];
        for (int k = 0; k < words.length; k++) {
            values[k] = value(method.getParameterTypes()[k], words[k]);
        }
        return ((Number) method.invoke(room, values)).longValue();
    }

    private static Object value(Class<?> type, String word) {
        if (type == boolean.class) {
            return Boolean.valueOf(word);
        }
        if (type == long.class) {
            return Long.decode(word.substring(0, word.length() - 1));
        }
        return Integer.decode(word);
    }

    private static long due(String word) {
        switch (word) {
            case "BAD": return CoatsOnChairs.BAD;
            case "NO": return CoatsOnChairs.NO;
            case "FULL": return CoatsOnChairs.FULL;
            case "NONE": return CoatsOnChairs.NONE;
            default: return Long.parseLong(word);
        }
    }

    /** The page's way to put a text is the one that the tests use. */
    private static void helper(Check check, String block) throws Exception {
        String used = Files.readString(Path.of("src/test/java/Check.java")).replaceAll("(?m)^ +", "");
        check.due("put, as in Check", used.contains(block.replaceAll("(?m)^ +", "")) ? 1 : 0, 1);
    }

    /** Each call has one row with its parameters' names; the answers below 0 are those of its promise. */
    private static void rows(Check check, String page) throws Exception {
        String doc = Files.readString(Path.of("../shared/DOC.md"));
        List<String> named = new ArrayList<>();
        Matcher row = ROW.matcher(page);
        while (row.find()) {
            String name = row.group(1);
            named.add(name);
            Matcher promise = Pattern.compile("\n`(?:int|long) " + name + "\\((.*?)\\)`: (.*)").matcher(doc);
            check.due("a promise tells " + name, promise.find() ? 1 : 0, 1);
            String parameters = promise.group(1).replaceAll("(int|long|boolean) ", "");
            check.due(name + "(" + row.group(2) + ")", parameters.equals(row.group(2)) ? 1 : 0, 1);
            for (String word : new String[] {"BAD", "NO", "FULL", "NONE"}) {
                boolean due = promise.group(2).matches(".*\\b" + word + "\\b.*") && !(name.equals("often") && word.equals("NONE"));
                boolean said = row.group(4).matches(".*\\b" + word + "\\b.*");
                check.due(name + " says " + word, said ? 1 : 0, due ? 1 : 0);
            }
        }
        for (Method method : CoatsOnChairs.class.getDeclaredMethods()) {
            if (Modifier.isPublic(method.getModifiers())) {
                check.due("one row for " + method.getName(), named.stream().filter(method.getName()::equals).count(), 1);
            }
        }
        check.due("rows", named.size(), 26);
    }

    /** Each test of the project is named, and what is named is there. */
    private static void tests(Check check, String page) throws Exception {
        Path home = Path.of("src/test/java");
        Matcher name = Pattern.compile("`(\\w+Test)`").matcher(page);
        while (name.find()) {
            check.due("there: " + name.group(1), Files.exists(home.resolve(name.group(1) + ".java")) ? 1 : 0, 1);
        }
        try (var files = Files.list(home)) {
            for (Path file : files.toList()) {
                String test = file.getFileName().toString().replace(".java", "");
                boolean said = !test.endsWith("Test") || page.contains("`" + test + "`");
                check.due("named: " + test, said ? 1 : 0, 1);
            }
        }
        for (String path : new String[] {".ci/run", "../shared/DOC.md", "../shared/LANGUAGE.md", "NOTES.md"}) {
            check.due("there and named: " + path, page.contains(path) && Files.exists(Path.of(path)) ? 1 : 0, 1);
        }
    }

    private static Method methodOf(String name) {
        for (Method method : CoatsOnChairs.class.getDeclaredMethods()) {
            if (method.getName().equals(name) && Modifier.isPublic(method.getModifiers())) {
                return method;
            }
        }
        throw new IllegalStateException("no such call: " + name);
    }
}

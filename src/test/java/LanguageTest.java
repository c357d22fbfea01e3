import java.nio.charset.StandardCharsets;
import java.nio.file.Files;
import java.nio.file.Path;
import java.util.List;
import java.util.regex.Matcher;
import java.util.regex.Pattern;

/** What LANGUAGE.md rules out and can be seen in the source; run where src stands. */
public final class LanguageTest {
    private static final String[] RULED_OUT = {"->", "::", "\\bcatch\\b", "\\bfinally\\b", "\\bthrow\\b", "\\bsynchronized\\b",
        "\\bassert\\b", "Exact\\b", "\\bpackage\\b", "\\bSystem\\.(?!arraycopy)", "\\bdouble\\b", "\\bfloat\\b", "@", "\\bvar\\b",
        "\\bMap\\b", "\\bRandom\\b", "\\bThread\\b", "\\bstatic \\{", "\\bcopyOf", "\\bclone\\b", "\\bString", "\\bList\\b",
        "\\bInteger\\b(?!\\.)", "\\bLong\\b(?!\\.)"};
    private static final int LONGEST_METHOD = 60;

    public static void main(String[] args) throws Exception {
        Check check = new Check();
        Path path = Path.of("src/main/java/CoatsOnChairs.java");
        String source = Files.readString(path, StandardCharsets.US_ASCII);
        String code = source.replaceAll("/\\*\\*.*?\\*/", "").replaceAll("//[^\n]*", "");
        for (String form : RULED_OUT) {
            Matcher found = Pattern.compile(form).matcher(code);
            check.due("ruled out: " + form, found.find() ? 1 : 0, 0);
        }
        Matcher imports = Pattern.compile("import ([^;]*);").matcher(code);
        while (imports.find()) {
            check.due("import of " + imports.group(1), imports.group(1).equals("java.util.Arrays") ? 1 : 0, 1);
        }
        methods(check, source.lines().toList());
        makers(check, code.lines().toList());
        check.end();
    }

    /** Calls make no object: 'new' stands in constructors alone, whose heads have a name but no type. */
    private static void makers(Check check, List<String> lines) {
        Pattern head = Pattern.compile("( {4}| {8})\\S.*\\) \\{");
        Pattern maker = Pattern.compile(" +(public |private )?[A-Z]\\w*\\(.*\\) \\{");
        boolean inMaker = false;
        int made = 0;
        for (String line : lines) {
            if (head.matcher(line).matches()) {
                inMaker = maker.matcher(line).matches();
            }
            boolean makes = Pattern.compile("\\bnew\\b").matcher(line).find();
            made += makes ? 1 : 0;
            check.due("made outside a constructor: " + line, makes && !inMaker ? 1 : 0, 0);
        }
        check.due("something is made", made > 0 ? 1 : 0, 1);
    }

    /** A method begins at an indent of four or eight and ends at a brace of the same indent. */
    private static void methods(Check check, List<String> lines) {
        Pattern head = Pattern.compile("( {4}| {8})\\S.*\\) \\{");
        for (int from = 0; from < lines.size(); from++) {
            Matcher begins = head.matcher(lines.get(from));
            if (begins.matches()) {
                int to = from;
                while (to < lines.size() && !lines.get(to).equals(begins.group(1) + "}")) {
                    to++;
                }
                check.due("too long: " + lines.get(from), to - from > LONGEST_METHOD ? 1 : 0, 0);
            }
        }
    }
}

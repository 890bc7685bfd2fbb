import java.io.IOException;
import java.nio.file.Files;
import java.nio.file.Path;
import java.util.List;
import java.util.regex.Matcher;
import java.util.regex.Pattern;

/** Those of the rules of LANGUAGE.md that the text of the program shows. It is run from the project's folder. */
public final class LanguageTest {
    /** What the rules leave out, as patterns on the text without its comments and constants of text. */
    private static final String[] LEFT_OUT = {
        "->", "::", "\\btry\\b", "\\bcatch\\b", "\\bfinally\\b", "\\bsynchronized\\b", "\\bassert\\b", "\\bpackage\\b",
        "\\brecord\\b", "\\bvar\\b", "\\bvolatile\\b", "\\btransient\\b", "\\bnative\\b", "\\bprotected\\b", "@",
        "\\bequals\\b", "\\bhashCode\\b", "\\btoString\\b", "Exact\\b", "\\bSystem\\b", "\\bRandom\\b", "\\bThread\\b",
        "\\bMap\\b", "\\bSet\\b", "\\bObject\\b", "\\bMath\\.(?!min\\b|max\\b)", "\\bInteger\\.(?!bitCount\\b)",
        "\\bArrays\\.(?!fill\\b)", "\"\" *\\+", "\\+ *\"\"", "\\bwhile\\b", "new int\\[[^\\]]*\\]\\[",
    };

    public static void main(String[] args) throws IOException {
        List<String> lines = Files.readAllLines(Path.of("src/main/java/ReviewForge.java"));
        StringBuilder text = new StringBuilder();
        for (String line : lines) {
            Expect.due(1, "signs of: " + line, line.chars().allMatch(sign -> sign > 0 && sign < 128), true);
            String bare = line.strip();
            boolean isComment = bare.startsWith("*") || bare.startsWith("/");
            text.append(isComment ? "" : line.replaceAll("\"[^\"]*\"", "\"\"")).append('\n');
        }
        for (String pattern : LEFT_OUT) {
            Matcher matcher = Pattern.compile(pattern).matcher(text);
            Expect.due(1, "the program has " + pattern, matcher.find(), false);
        }
        imports(text.toString());
        exceptions(text.toString());
        lengths(text.toString());
        Expect.finish("LanguageTest");
    }

    private static void imports(String text) {
        Matcher matcher = Pattern.compile("(?m)^import (.*);$").matcher(text);
        while (matcher.find()) {
            boolean isAllowed = matcher.group(1).equals("java.util.ArrayList") || matcher.group(1).equals("java.util.Arrays");
            Expect.due(1, matcher.group(), isAllowed, true);
        }
    }

    private static void exceptions(String text) {
        Matcher matcher = Pattern.compile("throw ([^;]*);").matcher(text);
        while (matcher.find()) {
            String due = "new (IllegalState|IllegalArgument|IndexOutOfBounds)Exception\\(\"\"\\)";
            Expect.due(1, matcher.group(), matcher.group(1).matches(due), true);
        }
    }

    /** A method begins with a line that ends with a brace, at the depth of members, and ends with a brace alone. */
    private static void lengths(String text) {
        int begin = 0;
        String indent = "";
        String[] lines = text.split("\n");
        for (int number = 0; number < lines.length; number++) {
            Matcher matcher = Pattern.compile("^(    |        )[\\w<][^=;]*\\(.*").matcher(lines[number]);
            if (matcher.matches() && !lines[number].strip().matches("(if|for|return|switch|else|throw)\\b.*")) {
                begin = number;
                indent = matcher.group(1);
            }
            if (lines[number].equals(indent + "}") && begin > 0) {
                Expect.due(1, "at most 60 lines: " + lines[begin].strip(), number - begin < 60, true);
            }
        }
    }
}

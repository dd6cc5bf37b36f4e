import java.io.IOException;
import java.nio.file.Files;
import java.nio.file.Path;
import java.util.List;
import java.util.Set;
import java.util.regex.Pattern;

/** What ../shared/LANGUAGE.md rules out and can be seen in single lines of the program. */
public final class LanguageTest {
    private static final Set<String> IMPORTS = Set.of("import java.util.Arrays;", "import java.util.ArrayList;",
            "import java.util.List;", "import java.util.Iterator;", "import java.util.NoSuchElementException;");
    // Only what no rule allows: a program that is written otherwise, but within the rules, must pass.
    private static final List<String> RULED_OUT = List.of("(?<!case .{1,60})(?<!default )->", "::", "\\bfinally\\b",
            "\\bsynchronized\\b", "\\bassert\\b", "^package\\b", "\\bprotected\\b", "\\bstatic \\{", "Exact\\(",
            "\\bSystem\\.(?!arraycopy)", "\\bThread\\b", "\\b(boolean equals|int hashCode|String toString)\\(",
            "\\bnew [A-Z]\\w*Exception\\((?!\\)|\"[^\"]*\"\\))", "\" \\+|\\+ \"",
            "\\bcatch \\((Throwable|Error|Exception|ArrayIndex|ArrayStore|ClassCast|NegativeArray|NullPointer)");
    private static final int LONGEST_METHOD = 60;
    private static final int MOST_PARAMETERS = 7;

    private LanguageTest() {
    }

    public static void main(String[] args) throws IOException {
        List<String> lines = Files.readAllLines(Path.of("src/main/java/CinemaChain.java"));
        for (String line : lines) {
            look(line);
        }
        lookAtMethods(lines);
        Check.end();
    }

    private static boolean isComment(String line) {
        return line.startsWith("//") || line.startsWith("*") || line.startsWith("/*");
    }

    private static void look(String line) {
        String text = line.strip();
        if (isComment(text)) {
            return;
        }
        if (text.startsWith("import ")) {
            Check.yes(text, IMPORTS.contains(text));
        }
        for (String ruledOut : RULED_OUT) {
            Check.no("rule of " + ruledOut + ": " + text, Pattern.compile(ruledOut).matcher(text).find());
        }
        Check.yes("signs of " + text, text.chars().allMatch(sign -> sign >= 1 && sign <= 127));
    }

    /** A method begins with a line that ends in ') {' or throws, and ends with a brace as far in as it began. */
    private static void lookAtMethods(List<String> lines) {
        Pattern head = Pattern.compile(" *(public |private |static |final )*[\\w\\[\\]<>]+ ?\\w*\\(([^)]*)\\).*\\{");
        Pattern statement = Pattern.compile(" *(\\} )?(if|else|for|while|switch|do|return)\\b.*");
        int methods = 0;
        for (int begin = 0; begin < lines.size(); begin++) {
            String line = lines.get(begin);
            if (head.matcher(line).matches() && !statement.matcher(line).matches()) {
                int parameters = line.substring(line.indexOf('('), line.indexOf(')')).split(",").length;
                Check.yes("parameters of " + line.strip(), parameters <= MOST_PARAMETERS);
                Check.yes("length of " + line.strip(), lengthOf(lines, begin) <= LONGEST_METHOD);
                methods++;
            }
        }
        Check.yes("the methods are found", methods >= 39);
    }

    private static int lengthOf(List<String> lines, int begin) {
        String line = lines.get(begin);
        String end = line.substring(0, line.length() - line.stripLeading().length()) + "}";
        int last = begin;
        while (last < lines.size() - 1 && !lines.get(last).equals(end)) {
            last++;
        }
        return last - begin + 1;
    }
}

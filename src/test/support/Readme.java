import java.nio.file.Path;
import java.util.ArrayList;
import java.util.List;
import java.util.Set;
import java.util.TreeSet;
import java.util.regex.Matcher;
import java.util.regex.Pattern;

/** README.md, taken apart. A test is run in the project's directory. */
final class Readme {
    static final String TEXT = Shell.read(Path.of("README.md"));

    private Readme() {
    }

    /** The blocks of a language in a section, as they stand there. */
    static List<String> blocks(String section, String language) {
        int start = TEXT.indexOf("\n## " + section + "\n") + 1;
        if (start == 0) {
            throw new IllegalStateException("README.md has no section " + section);
        }
        int next = TEXT.indexOf("\n## ", start);
        String words = TEXT.substring(start, next < 0 ? TEXT.length() : next);
        Matcher block = Pattern.compile("^```" + language + "\n(.*?)^```$", Pattern.MULTILINE | Pattern.DOTALL).matcher(words);
        List<String> blocks = new ArrayList<>();
        while (block.find()) {
            blocks.add(block.group(1));
        }
        return blocks;
    }

    /** What stands between two signs ` and matches all of a pattern's first group. */
    static Set<String> names(String pattern) {
        Matcher name = Pattern.compile("`" + pattern + "`").matcher(TEXT);
        Set<String> names = new TreeSet<>();
        while (name.find()) {
            names.add(name.group(1));
        }
        return names;
    }
}

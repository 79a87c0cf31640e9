import java.io.IOException;
import java.nio.charset.StandardCharsets;
import java.nio.file.Files;
import java.nio.file.Path;
import java.util.ArrayList;
import java.util.List;
import java.util.regex.Matcher;
import java.util.regex.Pattern;

/** What README.md says, for the tests that look whether it is so. */
final class Readme {
    private final String all;

    Readme() throws IOException {
        all = Files.readString(Path.of("README.md"), StandardCharsets.UTF_8);
    }

    /** The lines of the one block of code of a language. */
    List<String> block(String language) {
        List<String> blocks = groups("(?s)```" + language + "\n(.*?)```");
        if (blocks.size() != 1) {
            throw new IllegalStateException("README.md has " + blocks.size() + " blocks of " + language);
        }
        return blocks.get(0).lines().toList();
    }

    /** The command that runs all tests. */
    String command() {
        List<String> lines = block("sh");
        if (lines.size() != 1) {
            throw new IllegalStateException("README.md has " + lines.size() + " commands");
        }
        return lines.get(0).strip();
    }

    /** What a pattern's brackets hold, wherever it is found. */
    List<String> groups(String pattern) {
        List<String> found = new ArrayList<>();
        Matcher m = Pattern.compile(pattern).matcher(all);
        while (m.find()) {
            found.add(m.group(1));
        }
        return found;
    }
}

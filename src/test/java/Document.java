import java.io.IOException;
import java.io.UncheckedIOException;
import java.nio.file.Files;
import java.nio.file.Path;
import java.util.ArrayList;
import java.util.List;
import java.util.regex.Matcher;
import java.util.regex.Pattern;

/** ../shared/DOC.md, and the files of the project that stand beside it. */
final class Document {
    private Document() {
    }

    static String text() {
        return read("../shared/DOC.md");
    }

    static String read(String file) {
        try {
            return Files.readString(Path.of(file));
        } catch (IOException e) {
            throw new UncheckedIOException(e);
        }
    }

    /** The declarations of the public face, without the semicolons at their ends. */
    static List<String> face() {
        List<String> declarations = new ArrayList<>();
        String face = text().split("(?m)^## The public face$")[1].split("```")[1];
        Matcher matcher = Pattern.compile("(?m)^ {4}(public .*);$").matcher(face);
        while (matcher.find()) {
            declarations.add(matcher.group(1));
        }
        return declarations;
    }
}

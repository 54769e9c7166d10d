import java.io.IOException;
import java.nio.file.Files;
import java.nio.file.Path;
import java.util.List;

/** The text of a document, to see that the tests quote it truly and leave no words of it without a test. */
final class Doc {
    private Doc() {
    }

    static boolean isThere(Part part) {
        return Files.isReadable(Path.of(part.file()));
    }

    /** The text of a part, with one space wherever there is white space. */
    static String textOf(Part part) {
        String all = flat(read(Path.of(part.file())));
        int from = all.indexOf(flat(part.from()));
        int to = all.indexOf(flat(part.to()), from + 1);
        return from < 0 || to < 0 ? "" : all.substring(from + flat(part.from()).length(), to);
    }

    /** How often words stand in a text. */
    static int count(String text, String words) {
        int times = 0;
        for (int at = text.indexOf(words); at >= 0; at = text.indexOf(words, at + 1)) {
            times++;
        }
        return times;
    }

    /** What is left of a text without these words, each of which may overlap others. */
    static String without(String text, List<String> quotes) {
        char[] left = text.toCharArray();
        for (String words : quotes) {
            int at = text.indexOf(words);
            for (int i = at; at >= 0 && i < at + words.length(); i++) {
                left[i] = ' ';
            }
        }
        return flat(new String(left)).trim();
    }

    private static String read(Path place) {
        try {
            return Files.readString(place);
        } catch (IOException e) {
            return "";
        }
    }

    private static String flat(String text) {
        return text.replaceAll("\\s+", " ");
    }
}

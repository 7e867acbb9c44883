import java.io.IOException;
import java.nio.file.Files;
import java.nio.file.Path;
import java.util.List;

/** The examples of README.md: each call stands there with the answer that it has. */
final class ReadmeTest {
    private static List<String> page = List.of();
    private static int line = 0;

    public static void main(String[] args) throws IOException {
        page = Files.readAllLines(Path.of(System.getProperty("readme", "README.md")));
        calls(new SlipArchive());
        texts(new SlipArchive());
        Due.end();
    }

    private static void calls(SlipArchive archive) {
        told("archive.found(40);", archive.found(40));
        told("archive.slip(0, archive.marked(40));", archive.slip(0, archive.marked(40)));
        told("archive.days(1);", archive.days(1));
        told("archive.check(99);", archive.check(99));
        told("archive.days(1);", archive.days(1));
        told("archive.undo();", archive.undo());
    }

    private static void texts(SlipArchive archive) {
        String text = "archive 3 1 2 2; folder 10; folder 30; folder 20 until 4;";
        says("String text = \"" + text + "\";");
        feed(archive, text);
        told("archive.load(text.length());", archive.load(text.length()));
        String script = "slip 0 10; slip 1 30; day 2; return 10; drop 5; day 1;";
        says("String script = \"" + script + "\";");
        feed(archive, script);
        told("archive.play(script.length());", archive.play(script.length()));
        told("archive.format();", archive.format());
        Due.same("the text of format()", "20|10", Due.formatted(archive));
        told("archive.undoCount();", archive.undoCount());
        String wrong = "slip 0 10; day 61;";
        says("String wrong = \"" + wrong + "\";");
        feed(archive, wrong);
        told("archive.play(wrong.length());", archive.play(wrong.length()));
        told("archive.errorPosition();", archive.errorPosition());
    }

    /** As it stands on the page. */
    private static void feed(SlipArchive archive, String text) {
        int[] four = new int[(text.length() + 19) / 20 * 5];
        for (int i = 0; i < text.length(); i++) {
            four[i / 4] |= text.charAt(i) << 24 - i % 4 * 8;
        }
        for (int i = 0; i < four.length; i += 5) {
            archive.feed(four[i], four[i + 1], four[i + 2], four[i + 3], four[i + 4]);
        }
    }

    /** The next line of the page that begins with these words, an empty one if there is none. */
    private static String says(String words) {
        while (line < page.size()) {
            String there = page.get(line);
            line++;
            if (there.startsWith(words)) {
                return there;
            }
        }
        Due.yes("README.md says: " + words, false);
        return "";
    }

    private static void told(String call, int answer) {
        String[] parts = says(call).split("// |: ", 3);
        Due.same(call, parts.length == 3 ? parts[1] : "no answer", answer + "");
    }
}

import java.nio.charset.StandardCharsets;
import java.nio.file.Files;
import java.nio.file.Path;

/** The example in README.md, run from the project's root: each line stands there and answers so. */
public final class ReadmeTest {
    private static String readme;

    public static void main(String[] args) throws Exception {
        readme = Files.readString(Path.of("README.md"), StandardCharsets.UTF_8);
        HeavierToCome x = new HeavierToCome();
        String text = "year 3;bridge 2;man 50 90;man 70 50;knows 0 1;";
        Check.due("the text stands there", readme.contains("\"" + text + "\"") ? 1 : 0, 1);
        for (int k = 0; k < text.length(); k++) {
            x.feed(1, text.charAt(k));
        }
        line("x.hills();           // ", x.hills(), 2);
        line("x.most(0, -1);       // ", x.most(0, -1), 2);
        line("x.most(0, 0);        // ", x.most(0, 0), 0);
        line("x.names(0, 0);       // ", x.names(0, 0), 1);
        line("x.cross(0, 0, 1);    // ", x.cross(0, 0, 1), 1);
        line("x.evening();         // ", x.evening(), 1);
        line("x.bridge(0, 2);      // ", x.bridge(0, 2), 1);
        line("x.cross(0, 0, 1);    // ", x.cross(0, 0, 1), 0);
        line("x.cross(0, 1, -1);   // ", x.cross(0, 1, -1), 1);
        line("x.told(6);           // ", x.told(6), 2);
        Check.end("README.md");
    }

    private static void line(String call, int got, int want) {
        Check.due(call, got, want);
        Check.due("'" + call + want + "' stands there", readme.contains("\n" + call + want + ":") ? 1 : 0, 1);
    }
}

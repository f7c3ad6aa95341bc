import java.nio.file.Files;
import java.nio.file.Path;

/** The examples of README.md, each with the answer that stands there; run from the project's root. */
public final class ReadmeTest {
    private static String readme = "";

    private ReadmeTest() {
    }

    public static void main(String[] args) throws Exception {
        readme = Files.readString(Path.of("README.md"));
        int calls = calls();
        Check.due("calls of README.md that are tried", calls, readme.split("\nrow\\.", -1).length - 1);
        texts();
        Check.finish();
    }

    /** The answer that is due stands behind the call, between // and a colon. */
    private static void says(String call, int got) {
        int at = readme.indexOf("\n" + call + ";");
        if (at < 0) {
            Check.due("README.md's " + call, 0, 1);
            return;
        }
        int from = readme.indexOf("// ", at) + 3;
        Check.due("README.md: " + call, got, Integer.parseInt(readme.substring(from, readme.indexOf(':', from))));
    }

    private static int calls() {
        SkittleRow row = new SkittleRow();
        says("row.feed(0x616C6C65, 0x7920303B, 0x726F7720, 0x31313100, 0)", row.feed(0x616C6C65, 0x7920303B, 0x726F7720, 0x31313100, 0));
        says("row.end(15)", row.end(15));
        Check.due("README.md's alley", row.alley(), 3);
        says("row.won()", row.won());
        says("row.wins(1)", row.wins(1));
        says("row.wins(2)", row.wins(2));
        says("row.stroke(1, 1)", row.stroke(1, 1));
        says("row.undo()", row.undo());
        says("row.feed(0x7374726F, 0x6B65206D, 0x616E7900, 0, 0)", row.feed(0x7374726F, 0x6B65206D, 0x616E7900, 0, 0));
        says("row.end(11)", row.end(11));
        says("row.rule()", row.rule());
        says("row.match(0, 0, 0)", row.match(0, 0, 0));
        says("row.match(0, 0, 1)", row.match(0, 0, 1));
        says("row.feed(0x616C6C65, 0x79203200, 0, 0, 0)", row.feed(0x616C6C65, 0x79203200, 0, 0, 0));
        says("row.end(7)", row.end(7));
        Check.due("README.md's fault", row.alley(), -52);
        says("row.count(0)", row.count(0));
        return 17;
    }

    private static String quoted(String text) {
        Check.due("README.md's '" + text + "'", readme.contains("`" + text + "`") ? 1 : 0, 1);
        return text;
    }

    private static void texts() {
        SkittleRow row = Check.with(quoted("alley 0;row 1101;row 111;ring 1;hit 1;hit 3;ends;last;stray 20"));
        int[] counts = {7, 2, 5, 1, 1, 20, 0, 0, 0b1111011};
        for (int what = 0; what < counts.length; what++) {
            Check.due("README.md's alley, count(" + what + ")", row.count(what), counts[what]);
        }
        Check.due("README.md's rule", Check.rule(row, quoted("stroke 100 if won = 1; stroke 9 - longest if not [turn = 1 or runs > 2]; stroke many")), 0);
    }
}

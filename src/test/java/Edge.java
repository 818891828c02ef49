import java.io.IOException;
import java.nio.file.Files;
import java.nio.file.Path;
import java.util.ArrayList;
import java.util.List;

/** Answers that are due to one sentence of the document each, and what of the document no test quotes. */
final class Edge {
    private static final Path DOCUMENT = Path.of("../shared/DOC.md");

    private final Due due;
    private final List<String> quotes = new ArrayList<>();
    private String quote = "";
    private int answers = 1;

    Edge(Due due) {
        this.due = due;
    }

    /** The answers up to the next sentence are due to this one. */
    void of(String sentence) {
        ended();
        quote = sentence;
        quotes.add(sentence);
        answers = 0;
    }

    void is(String call, long got, long want) {
        answers++;
        due.is("\"" + quote + "\" " + call, got, want);
    }

    void isTrue(String what, boolean so) {
        is(what, so ? 1 : 0, 1);
    }

    void same(String what, String got, String want) {
        is(what + ": " + got + " / " + want, got.equals(want) ? 1 : 0, 1);
    }

    /** A text that is read by a new object: its fault and place, or 0 and -1. */
    UnevenWax text(int p, String text, int fault, int place) {
        UnevenWax x = new UnevenWax();
        int got = p < 0 ? Due.cellar(x, text) : Due.plan(x, p, text);
        if (fault == 0) {
            isTrue(text + " is read", got >= 0);
        } else {
            is(text, got, -30 - fault);
        }
        is(text + " fault(0)", x.fault(0), fault);
        is(text + " fault(1)", x.fault(1), place);
        return x;
    }

    private void ended() {
        due.isTrue("\"" + quote + "\" has an answer", answers > 0);
    }

    /**
     * Says which passages no test quotes, and which quotes the document has not (it may have changed):
     * this is told, and fails nothing, as the class may be right for all that.
     */
    void close() throws IOException {
        ended();
        if (!Files.exists(DOCUMENT)) {
            return;
        }
        String document = plain(Files.readString(DOCUMENT));
        boolean[] quoted = new boolean[document.length()];
        for (String each : quotes) {
            String sentence = plain(each);
            int at = document.indexOf(sentence);
            if (at < 0) {
                System.out.println("not in the document: " + each);
            }
            for (; at >= 0; at = document.indexOf(sentence, at + 1)) {
                java.util.Arrays.fill(quoted, at, at + sentence.length(), true);
            }
        }
        tellUnquoted(document, quoted);
    }

    private static void tellUnquoted(String document, boolean[] quoted) {
        int from = Math.max(0, document.indexOf("An object is used"));
        int to = document.indexOf("## Not promised");
        StringBuilder open = new StringBuilder();
        for (int i = from; i < to; i++) {
            if (quoted[i]) {
                tell(open);
            } else {
                open.append(document.charAt(i));
            }
        }
        tell(open);
    }

    private static void tell(StringBuilder open) {
        String passage = open.toString().trim();
        open.setLength(0);
        String bare = passage.replaceAll("## Promise \\d+: \\w+|`[^`]*`:|```\\w*|==== \\d\\.", "");
        if (System.getProperty("unquoted") != null && bare.matches(".*\\w.*")) {
            System.out.println("no test quotes: " + passage);
        }
    }

    private static String plain(String text) {
        return text.replaceAll("\\s+", " ");
    }
}

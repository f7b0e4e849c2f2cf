import java.io.IOException;
import java.nio.file.Files;
import java.nio.file.Path;

/**
 * Ties tests to the document's sentences: each quotes the one that it tests, and what no test quotes is told.
 * The quotes of a section come in the document's order.
 */
final class Sentences {
    private static final Path DOCUMENT = Path.of("../shared/DOC.md");

    interface Check {
        void run();
    }

    private final Bench bench;
    private final String document;
    private String section = "";
    private int quotedTo = 0;

    Sentences(Bench bench) throws IOException {
        this.bench = bench;
        document = Files.isRegularFile(DOCUMENT) ? plain(Files.readString(DOCUMENT)) : "";
        if (document.isEmpty()) {
            System.out.println("no " + DOCUMENT + ": the quotes are not looked at");
        }
    }

    /** Headings, fences and signatures are no sentences. */
    private static String plain(String text) {
        return text.replaceAll("(?m)^(```|#).*$", " ").replaceAll("`[^`\n]*`:", " ").replaceAll("\\s+", " ");
    }

    /** The words from one on, up to and without the other, which stands behind it. */
    void section(String from, String to) {
        endSection();
        int start = document.indexOf(from);
        int end = start < 0 ? -1 : document.indexOf(to, start + from.length());
        if (!document.isEmpty()) {
            bench.due("the document has '" + from + "' and behind it '" + to + "'", end >= 0 ? 1 : 0, 1);
        }
        section = end < 0 ? "" : document.substring(start, end);
        quotedTo = 0;
    }

    void holds(String quote, Check check) {
        look(quote);
        int wrong = bench.wrong();
        int checked = bench.checked();
        check.run();
        if (bench.wrong() > wrong) {
            System.out.println("  so this does not hold: " + quote);
        }
        bench.due("there is a test of: " + quote, bench.checked() > checked ? 1 : 0, 1);
    }

    private void look(String quote) {
        if (section.isEmpty()) {
            return;
        }
        int start = section.indexOf(quote, quotedTo);
        bench.due("the document says, behind the quote ahead: " + quote, start >= 0 ? 1 : 0, 1);
        if (start >= 0) {
            noneLeftOut(section.substring(quotedTo, start));
            quotedTo = start + quote.length();
        }
    }

    private void noneLeftOut(String between) {
        bench.due("what no test quotes", between.replaceAll("[\\s.,;:()]", "").isEmpty() ? "" : between, "");
    }

    private void endSection() {
        noneLeftOut(section.substring(quotedTo));
    }

    void finish(String name) {
        endSection();
        bench.finish(name);
    }
}

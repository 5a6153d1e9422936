import java.io.IOException;
import java.nio.charset.StandardCharsets;
import java.nio.file.Files;
import java.nio.file.Path;
import java.nio.file.Paths;
import java.util.Set;
import java.util.TreeSet;

/**
 * What the tests of the document's sentences share: each check stands behind the sentence that it is of, which is
 * quoted with its promise or its section of the terms, and looked up in the document where that can be read.
 */
final class Sentences {
    private final Due due;
    private final String document;
    private final Set<Integer> promises = new TreeSet<>();
    private String quoted = "";

    Sentences(String test) {
        due = new Due(test);
        document = readDocument();
    }

    private static String readDocument() {
        String told = System.getenv("PAPERWAY_DOC");
        Path path = Paths.get(told == null ? "../shared/DOC.md" : told);
        if (!Files.isReadable(path)) {
            return null;
        }
        try {
            return plain(new String(Files.readAllBytes(path), StandardCharsets.UTF_8));
        } catch (IOException e) {
            return null;
        }
    }

    private static String plain(String s) {
        return s.replace("```text", "").replace("```", "").replaceAll("\\s+", " ");
    }

    /** The checks from here on are of this sentence of a promise. */
    void promise(int number, String sentence) {
        promises.add(number);
        quote("promise " + number, "## Promise " + number + ":", "## ", sentence);
    }

    /** The checks from here on are of this sentence of the terms. */
    void terms(int section, String sentence) {
        quote("terms " + section, "==== " + section + ". ", section == 5 ? "The constants:" : "==== ", sentence);
    }

    /** The checks from here on are of this sentence of what stands around the promises. */
    void frame(String heading, String sentence) {
        quote(heading, "## " + heading, "## ", sentence);
    }

    private void quote(String name, String head, String end, String sentence) {
        quoted = name + ", \"" + sentence + "\": ";
        if (document == null) {
            return;
        }
        int from = document.indexOf(head);
        int behind = from < 0 ? -1 : from + head.length();
        int to = behind < 0 ? -1 : document.indexOf(end, behind);
        String part = behind < 0 ? "" : document.substring(behind, to < 0 ? document.length() : to);
        due.due(quoted + "stands in the document", part.contains(plain(sentence)), true);
    }

    void due(String call, long got, long want) {
        due.due(quoted + call, got, want);
    }

    void due(String call, boolean got, boolean want) {
        due.due(quoted + call, got, want);
    }

    /** Ends the test, which must have had sentences of each promise from the first to the last. */
    void end(int first, int last) {
        for (int p = first; p <= last; p++) {
            due.due("sentences of promise " + p, promises.contains(p), true);
        }
        due.end();
    }
}

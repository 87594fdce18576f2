import java.io.IOException;
import java.nio.file.Files;
import java.nio.file.Path;
import java.util.TreeSet;

/** Counts what is checked, and tells what is not as due. */
final class Check {
    private static final Path DOCUMENT = Path.of("../shared/DOC.md");

    /** An object, made the same way each time. */
    interface Made {
        PastWeb make();
    }

    /** One call of an object. */
    interface Call {
        long on(PastWeb web);
    }

    private int checks;
    private int wrong;
    private String place = "";
    /** Since the last sentence; below 0: there was none. */
    private int checksOfSentence = -1;
    private String document;
    private final TreeSet<Integer> promises = new TreeSet<>();

    void at(String where) {
        place = where;
    }

    /** What is checked next is what the document says there, in its Terms (0) or in a promise. */
    void says(int promise, String sentence) {
        endSentence();
        checksOfSentence = 0;
        place = (promise == 0 ? "Terms" : "promise " + promise) + ", '" + sentence + "'";
        promises.add(promise);
        if (!section(promise).contains(sentence)) {
            tell("that sentence does not stand in the document");
        }
    }

    private void endSentence() {
        if (checksOfSentence == 0) {
            tell("nothing is checked for that sentence");
        }
    }

    /** The sentence alone, where there is no document to look at. */
    private String section(int promise) {
        if (document == null) {
            document = readDocument();
        }
        if (document.isEmpty()) {
            return place;
        }
        int from = document.indexOf(promise == 0 ? "## Terms" : "## Promise " + promise + ":");
        int to = document.indexOf(promise == 0 ? "## Promise 1:" : "\n## ", from);
        return document.substring(from, to).replaceAll("\\s+", " ");
    }

    private static String readDocument() {
        try {
            return Files.isReadable(DOCUMENT) ? Files.readString(DOCUMENT) : "";
        } catch (IOException e) {
            return "";
        }
    }

    /** All promises of that stretch were spoken of. */
    void saidPromises(int from, int to) {
        for (int promise = from; promise <= to; promise++) {
            if (!promises.contains(promise)) {
                place = "promise " + promise;
                tell("no sentence of it is checked");
            }
        }
    }

    private void tell(String what) {
        wrong++;
        if (wrong <= 50) {
            System.out.println(place + ": " + what);
        }
    }

    private void count() {
        checks++;
        if (checksOfSentence >= 0) {
            checksOfSentence++;
        }
    }

    void due(String call, long got, long want) {
        count();
        if (got != want) {
            tell(call + " answered " + got + ", due is " + want);
        }
    }

    void due(String call, String got, String want) {
        count();
        if (!got.equals(want)) {
            tell(call + " answered " + got + ", due is " + want);
        }
    }

    /** The call is answered so, and changes nothing: what can be asked is as on an object without it. */
    void refused(String call, Made made, Call asked, long want) {
        PastWeb web = made.make();
        due(call, asked.on(web), want);
        due("what can be asked behind " + call, Told.all(web), Told.all(made.make()));
    }

    int wrong() {
        return wrong;
    }

    /** Ends the program as the form of a test asks. */
    void end(String name) {
        endSentence();
        System.out.println(name + " checked " + checks + " answers, " + wrong + " not as due");
        if (wrong != 0 || checks == 0) {
            System.exit(1);
        }
    }

    /** The answer of roads, or what it throws. */
    static String roads(PastWeb web, int from, int to) {
        try {
            return "" + web.roads(from, to);
        } catch (IllegalArgumentException e) {
            return "throws.IllegalArgumentException";
        }
    }

    /** The answer of element, or what it throws. */
    static String element(PastWeb web, int d, int i) {
        try {
            return "" + web.element(d, i);
        } catch (IllegalArgumentException e) {
            return "throws.IllegalArgumentException";
        } catch (IllegalStateException e) {
            return "throws.IllegalStateException";
        }
    }
}

import java.io.IOException;
import java.nio.file.Files;
import java.nio.file.Path;
import java.util.HashSet;
import java.util.Set;

/** Each sentence of the document that names an edge, by its words, with a test of its own. */
public final class Sentences {
    interface Test {
        void run();
    }

    private static final Set<String> TESTED = new HashSet<>();
    private static String document;
    private static String heading = "";
    private static String section = "";
    private static String sentence = "";
    private static int checks;
    private static int wrong;

    private Sentences() {
    }

    public static void main(String[] args) throws IOException {
        document = Files.readString(Path.of("../shared/DOC.md"));
        TermsEdges.all();
        RefusedCalls.all();
        LandEdges.all();
        WeekEdges.all();
        SearchEdges.all();
        OtherEdges.all();
        System.out.println("Sentences: " + TESTED.size() + " tested, " + wrong + " answers are not as due");
        if (wrong > 0) {
            System.exit(1);
        }
    }

    /** What follows is said under this heading. */
    static void under(String where) {
        heading = where;
        int from = document.indexOf("\n## " + where);
        int to = document.indexOf("\n## ", from + 1);
        section = from < 0 ? "" : document.substring(from, to < 0 ? document.length() : to).replaceAll("\\s+", " ");
    }

    static void underPromise(int number) {
        under("Promise " + number + ":");
    }

    static void holds(String words, Test test) {
        sentence = words;
        checks = 0;
        must("the document says so", section.contains(words));
        must("it is said once", TESTED.add(heading + words));
        int asked = checks;
        try {
            test.run();
        } catch (RuntimeException e) {
            must("nothing is thrown, not " + e, false);
        }
        must("it is tested", checks > asked);
    }

    private static void must(String what, boolean is) {
        checks++;
        if (!is) {
            wrong++;
            System.out.println(heading + " \"" + sentence + "\": " + what);
        }
    }

    static void is(String call, long got, long due) {
        must(call + " answered " + got + ", due is " + due, got == due);
    }

    static void is(String call, boolean got, boolean due) {
        must(call + " answered " + got + ", due is " + due, got == due);
    }

    static void is(String call, String got, String due) {
        must(call + " is [" + got + "], due is [" + due + "]", got.equals(due));
    }

    /** The ROW is just that. */
    static void rowIs(EachBringsAnother x, int... due) {
        StringBuilder s = new StringBuilder();
        for (int i = 0; i < due.length; i++) {
            s.append(i == 0 ? "" : " ").append(due[i]);
        }
        is("the ROW", Feasts.row(x), s.toString());
    }

    static void isThrown(String call, Runnable run) {
        is(call + " throws NoSuchElementException", Feasts.throwsNone(run), true);
    }
}

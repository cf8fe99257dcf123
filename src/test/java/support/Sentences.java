import java.io.IOException;
import java.nio.file.Files;
import java.nio.file.Path;
import java.util.LinkedHashSet;
import java.util.Set;

/** Tests that each stand under a sentence of the document, in its own words. */
abstract class Sentences {
    static final int NONE = -1, UNKNOWN = -1000000001, OUTSIDE = -1000000002, NOT = -1000000003, FULL = -1000000004;
    static final int LEAST = Integer.MIN_VALUE, MOST = Integer.MAX_VALUE;
    private static final Path DOC = Path.of("../shared/DOC.md");
    private static final Set<String> quotes = new LinkedHashSet<>();
    private static String document = "";
    private static String sentence = "";
    private static int wrong = 0;
    private static int answers = 0;

    interface Call {
        int on(Counted x);
    }

    interface Maker {
        Counted make();
    }

    private static String flat(String text) {
        return text.replaceAll("\\s+", " ");
    }

    static void read() throws IOException {
        document = flat(Files.readString(DOC));
    }

    /** The words must stand in the document, so that no test is left behind when they change. */
    static void sentence(String quote, Runnable test) {
        sentence = quote;
        if (!document.contains(flat(quote))) {
            wrong++;
            System.out.println("not in the document: " + quote);
        }
        if (!quotes.add(quote)) {
            wrong++;
            System.out.println("twice: " + quote);
        }
        int before = answers;
        test.run();
        if (answers == before) {
            wrong++;
            System.out.println("nothing is asked for: " + quote);
        }
    }

    static void due(String call, int got, int want) {
        answers++;
        if (got != want) {
            wrong++;
            System.out.println("\"" + sentence + "\": " + call + " answered " + got + ", due is " + want);
        }
    }

    static void alike(String what, String got, String want) {
        answers++;
        if (!got.equals(want)) {
            wrong++;
            System.out.println("\"" + sentence + "\": " + what + ":\n  is  " + got + "\n  due " + want);
        }
    }

    static void told(Counted x, int from, int... want) {
        for (int i = 0; i < want.length; i++) due("told(" + (from + i) + ")", x.told(from + i), want[i]);
    }

    static void order(Counted x, int... want) {
        for (int i = 0; i < want.length; i++) due("best(" + i + ")", x.best(i), want[i]);
        due("best(" + want.length + ")", x.best(want.length), NONE);
    }

    static Counted wall(int strips, int layers) {
        Counted x = new Counted();
        x.build(strips, layers);
        return x;
    }

    /** LOADS for every CELL of the wall, if it needs 1, at TIME 0. */
    static Counted supplied(int strips, int layers) {
        Counted x = wall(strips, layers);
        for (int k = 0; k < 3; k++) x.truck(0, 4);
        return x;
    }

    static Counted restUntil(Counted x, int time) {
        int left = time - x.told(2);
        for (; left > 40; left -= 40) x.rest(40);
        if (left > 0) x.rest(left);
        return x;
    }

    static void end() {
        System.out.println(quotes.size() + " sentences, " + answers + " answers, " + wrong + " not as due");
        if (wrong != 0) System.exit(1);
    }
}

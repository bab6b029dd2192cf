import java.io.IOException;
import java.nio.file.Files;
import java.nio.file.Path;

/** Counts answers, prints each that is not as due, and ends the program by what was counted. */
final class Due {
    static final String TOWN = "n7 2;p0 0 5;p1 3 7;p2 2 3;p3 6 9;p4 1 6;p0 4 0;m5,8,2;";

    private static int asked = 0;
    private static int wrong = 0;
    private static String sentence = "";
    private static String document;

    private Due() {
    }

    static void due(String call, long got, long want) {
        asked++;
        if (got != want) {
            wrong++;
            System.out.println(sentence + call + " answered " + got + ", due is " + want);
        }
    }

    /** The words of the document that the answers from here on belong to: they must stand there just so. */
    static void sentence(String words) {
        sentence = "";
        dueTrue("the document has '" + words + "'", document().isEmpty() || document().contains(words));
        sentence = "'" + words + "': ";
    }

    private static String document() {
        if (document == null) {
            try {
                document = Files.readString(Path.of("../shared/DOC.md"));
            } catch (IOException e) {
                document = "";
            }
        }
        return document;
    }

    static void dueTrue(String what, boolean holds) {
        due(what, holds ? 1 : 0, 1);
    }

    static void feedAll(GiltCockcrow x, String text) {
        for (int i = 0; i < text.length(); i++) {
            x.feed(text.charAt(i));
        }
    }

    static int townOf(GiltCockcrow x, String text) {
        feedAll(x, text);
        return x.town();
    }

    static GiltCockcrow in(String text) {
        GiltCockcrow x = new GiltCockcrow();
        int answer = townOf(x, text);
        dueTrue("a town without a fault: " + text, answer >= 0);
        return x;
    }

    /** All that can be asked about the state without changing it, as one text. */
    static String all(GiltCockcrow x) {
        StringBuilder out = new StringBuilder();
        for (int what = 0; what <= 15; what++) {
            out.append(what).append(':').append(x.told(what)).append(' ');
        }
        for (int p = 0; p < x.told(2); p++) {
            for (int what = 0; what <= 4; what++) {
                out.append(x.person(p, what)).append(',');
            }
        }
        out.append(" is ").append(x.is(0)).append(',').append(x.is(1)).append(',').append(x.is(2));
        out.append(" judge ").append(x.judge()).append(" fault ").append(x.fault());
        int seed = x.seed(0);
        x.seed(seed);
        return out.append(" seed ").append(seed).toString();
    }

    static void end() {
        System.out.println(asked + " answers, " + wrong + " not as due");
        if (wrong != 0) {
            System.exit(1);
        }
    }
}

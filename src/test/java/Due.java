import java.io.IOException;
import java.nio.file.Files;
import java.nio.file.Path;
import java.util.TreeSet;
import java.util.function.IntUnaryOperator;

/** Compares answers with those that are due, for all tests of the project. */
final class Due {
    private static final int PROMISES = 47;

    private final String test;
    private final TreeSet<Integer> promises = new TreeSet<>();
    private String document;
    private String sentence = "";
    private int sentences;
    private int askedBefore;
    private int asked;
    private int wrong;

    Due(String test) {
        this.test = test;
    }

    void is(String call, long got, long want) {
        asked++;
        if (got != want) {
            wrong++;
            if (wrong <= 50) {
                System.out.println(test + ": " + sentence + call + " answered " + got + ", due is " + want);
            }
        }
    }

    void is(String call, boolean got, boolean want) {
        is(call, got ? 1 : 0, want ? 1 : 0);
    }

    void same(String what, String got, String want) {
        is(what + " " + got + " for " + want + ":", got.equals(want), true);
    }

    /** Asks with 0, 1, 2 and so on. */
    void row(String call, IntUnaryOperator ask, int... want) {
        for (int i = 0; i < want.length; i++) {
            is(call + " of " + i, ask.applyAsInt(i), want[i]);
        }
    }

    /** Asks with each of some arguments; one answer is due for all. */
    void all(String call, int want, IntUnaryOperator ask, int... with) {
        for (int number : with) {
            is(call + " of " + number, ask.applyAsInt(number), want);
        }
    }

    /** What is done in between must leave all as it is. */
    void unchanged(ThreeTiers x, Runnable calls) {
        String before = state(x);
        calls.run();
        same("the state", state(x), before);
    }

    /** What is asked from here on belongs to these words of the document: of a promise, or of its Terms (0). */
    void sentence(int promise, String words) {
        endSentence();
        sentence = "\"" + words + "\": ";
        sentences++;
        promises.add(promise);
        askedBefore = asked;
        if (!part(promise).contains(words)) {
            wrong++;
            System.out.println(test + ": the document does not say under " + promise + ": " + words);
        }
    }

    private void endSentence() {
        if (sentences > 0 && asked == askedBefore) {
            wrong++;
            System.out.println(test + ": " + sentence + "nothing was asked");
        }
    }

    private String part(int promise) {
        if (document == null) {
            try {
                document = Files.readString(Path.of("../shared/DOC.md")).replaceAll("\\s+", " ");
            } catch (IOException missing) {
                throw new IllegalStateException("../shared/DOC.md can't be read", missing);
            }
        }
        int from = promise == 0 ? 0 : document.indexOf("## Promise " + promise + ":");
        int to = document.indexOf("## ", document.indexOf(promise == 0 ? "## Terms" : "## Promise " + promise + ":") + 3);
        return document.substring(Math.max(0, from), Math.max(0, to));
    }

    void everyPromiseHasSentences() {
        for (int promise = 0; promise <= PROMISES; promise++) {
            is("sentences of promise " + promise, promises.contains(promise), true);
        }
    }

    void finish() {
        endSentence();
        String of = sentences > 0 ? " to " + sentences + " sentences" : "";
        System.out.println(test + ": " + asked + " answers" + of + ", " + wrong + " not as due");
        if (wrong != 0 || asked == 0) {
            System.exit(1);
        }
    }

    static void tape(ThreeTiers x, String text) {
        for (int i = 0; i < text.length(); i += 20) {
            x.feed(four(text, i), four(text, i + 4), four(text, i + 8), four(text, i + 12), four(text, i + 16));
        }
        x.end(text.length());
    }

    static int four(String text, int at) {
        int number = 0;
        for (int i = at; i < at + 4; i++) {
            number = number << 8 | (i < text.length() ? text.charAt(i) & 255 : 0);
        }
        return number;
    }

    static int tell(ThreeTiers x, String text) {
        tape(x, text);
        return x.cake();
    }

    static ThreeTiers cake(String text) {
        ThreeTiers x = new ThreeTiers();
        if (tell(x, text) < 0) {
            throw new IllegalStateException("fault " + x.fault(0) + " at " + x.fault(1) + " in " + text);
        }
        return x;
    }

    /** All that can be seen of the table, in few calls, so that two states can be compared. */
    static String table(ThreeTiers x) {
        StringBuilder all = new StringBuilder();
        for (int what = 2; what <= 5; what++) {
            all.append(x.about(what)).append(' ');
        }
        int pieces = x.about(2);
        for (int piece = 0; piece < pieces; piece++) {
            for (int what : new int[] {0, 1, 2, 3, 4, 7, 8}) {
                all.append(x.piece(piece, what)).append(',');
            }
        }
        int guests = x.about(1);
        for (int guest = 0; guest < guests; guest++) {
            all.append(x.guest(guest, 3)).append(';');
        }
        return all.toString();
    }

    /** The table, and all else that can be seen without doing anything. */
    static String state(ThreeTiers x) {
        StringBuilder all = new StringBuilder(table(x));
        for (int what = 0; what <= 12; what++) {
            all.append(' ').append(x.about(what));
        }
        for (int i = 0; i < x.about(12); i++) {
            all.append(',').append(x.lies(i));
        }
        return all.append(" fits ").append(x.fits(x.about(9))).toString();
    }
}

import java.io.IOException;
import java.io.UncheckedIOException;
import java.nio.charset.StandardCharsets;
import java.nio.file.Files;
import java.nio.file.Path;
import java.util.concurrent.Callable;

/** What the tests share: texts to the tape, answers as words, and the count of wrong ones. */
final class Checks {
    static final String OUT = "throws.IndexOutOfBoundsException";
    static final String WRONG = "throws.IllegalArgumentException";
    static final String STATE = "throws.IllegalStateException";
    static final String FULL = "throws.UnsupportedOperationException";
    static final String NO_SUCH = "throws.NoSuchElementException";

    private static final Path DOCUMENT = Path.of("../shared/DOC.md");

    private static String document = null;
    private static String sentence = "";
    private static int askedAhead = 0;
    private static int asked = 0;
    private static int wrong = 0;

    private Checks() {
    }

    /** What is asked from here on tests these words, which must stand in the document so. */
    static void sentence(String words) {
        endSentence();
        sentence = words;
        askedAhead = asked;
        if (!document().contains(oneLine(words))) {
            fail("the document does not say: " + words);
        }
    }

    private static void endSentence() {
        if (!sentence.isEmpty() && asked == askedAhead) {
            fail("nothing was asked of: " + sentence);
        }
        sentence = "";
    }

    private static String document() {
        try {
            document = document == null ? oneLine(Files.readString(DOCUMENT)) : document;
            return document;
        } catch (IOException e) {
            throw new UncheckedIOException(e);
        }
    }

    private static String oneLine(String text) {
        return text.replaceAll("\\s+", " ");
    }

    private static void fail(String what) {
        wrong++;
        System.out.println((sentence.isEmpty() ? "" : "[" + sentence + "] ") + what);
    }

    static void due(String what, Object want, Callable<?> call) {
        asked++;
        String got = answer(call);
        if (!got.equals(String.valueOf(want))) {
            fail(what + " answered " + got + ", due is " + want);
        }
    }

    static String answer(Callable<?> call) {
        try {
            return String.valueOf(call.call());
        } catch (Exception e) {
            return "throws." + e.getClass().getSimpleName();
        }
    }

    static void close() {
        endSentence();
        System.out.println(asked + " answers, " + wrong + " wrong");
        if (wrong != 0 || asked == 0) {
            System.exit(1);
        }
    }

    static void tape(ScarArmy x, byte[] bytes) {
        for (int at = 0; at < bytes.length; at += 20) {
            int[] n = new int[5];
            for (int i = 0; i < 20; i++) {
                int b = at + i < bytes.length ? bytes[at + i] & 255 : 0;
                n[i / 4] = n[i / 4] << 8 | b;
            }
            x.feed(n[0], n[1], n[2], n[3], n[4]);
        }
        x.end(bytes.length);
    }

    static void tape(ScarArmy x, String text) {
        tape(x, text.getBytes(StandardCharsets.ISO_8859_1));
    }

    static int army(ScarArmy x, String text) {
        tape(x, text);
        return x.army();
    }

    static int law(ScarArmy x, String text) {
        tape(x, text);
        return x.law();
    }

    static ScarArmy with(String... texts) {
        ScarArmy x = new ScarArmy();
        for (String text : texts) {
            army(x, text);
        }
        return x;
    }

    /** The army that most tests begin with: three battles, three men, five scars. */
    static ScarArmy first() {
        return with("battle 2 day 10 with 0 1;battle 5 day 12 with 2;battle 3 day 20 with 0;"
                + "man 100;man 50;man 0;scar 0 of 0 in 0 depth 3 on 0;scar 2 of 1 in 0 depth 2 on 0;"
                + "scar 3 of 2 in 1 depth 5 on 1;scar 2 of 0 in 2 depth 1 on 2 by 0;scar 0 of 4 in 2 depth 2 on 2;"
                + "today 25");
    }

    /** The first wrong byte of a text of the army. */
    static int armyFault(ScarArmy x, String text) {
        tape(x, text);
        try {
            x.army();
        } catch (IllegalArgumentException e) {
            return x.fault();
        }
        return x.fault() == ScarArmy.NONE ? ScarArmy.NONE : -99;
    }

    static int lawFault(ScarArmy x, String text) {
        tape(x, text);
        try {
            x.law();
        } catch (IllegalArgumentException e) {
            return x.fault();
        }
        return x.fault() == ScarArmy.NONE ? ScarArmy.NONE : -99;
    }

    static int enemies(ScarArmy x, int enemy, int... told) {
        byte[] bytes = new byte[told.length];
        for (int i = 0; i < told.length; i++) {
            bytes[i] = (byte) told[i];
        }
        tape(x, bytes);
        return x.enemies(enemy);
    }
}

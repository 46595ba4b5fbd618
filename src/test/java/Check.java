import java.io.IOException;
import java.nio.charset.StandardCharsets;
import java.nio.file.Files;
import java.nio.file.Path;

/** What the tests share: answers that are due, calls that refuse, and texts put on the tape. */
final class Check {
    private static final Path DOCUMENT = Path.of("../shared/DOC.md");

    private static int checks = 0;
    private static int wrong = 0;
    private static String document = null;
    private static String sentence = "";

    private Check() {
    }

    /** Words of the document that the next checks hold; they must stand there letter by letter, if it can be read. */
    static void says(String words) {
        checks++;
        if (!document().isEmpty() && !document().contains(plain(words))) {
            wrong++;
            System.out.println("the document does not say: " + words);
        }
        sentence = "'" + words + "': ";
    }

    private static String plain(String text) {
        return text.replaceAll("\\s+", " ");
    }

    private static String document() {
        if (document == null) {
            try {
                document = plain(Files.readString(DOCUMENT));
            } catch (IOException e) {
                System.out.println("no document at " + DOCUMENT + ": its words are not looked up");
                document = "";
            }
        }
        return document;
    }

    static void due(String what, long got, long want) {
        checks++;
        if (got != want) {
            wrong++;
            System.out.println(sentence + what + " answered " + got + ", due is " + want);
        }
    }

    static void due(String what, String got, String want) {
        checks++;
        if (!got.equals(want)) {
            wrong++;
            System.out.println(sentence + what + " answered\n" + got + "\ndue is\n" + want);
        }
    }

    static void due(String what, boolean got, boolean want) {
        due(what, got ? 1 : 0, want ? 1 : 0);
    }

    /** The call throws exactly this kind: a kind below it would be one of the machine's own. */
    static void refuses(String what, Class<? extends RuntimeException> kind, Runnable call) {
        checks++;
        String got = "nothing";
        try {
            call.run();
        } catch (RuntimeException e) {
            got = e.getClass().getName();
        }
        if (!got.equals(kind.getName())) {
            wrong++;
            System.out.println(sentence + what + " threw " + got + ", due is " + kind.getName());
        }
    }

    static void put(TurfBog bog, String text) {
        put(bog, text.getBytes(StandardCharsets.ISO_8859_1));
    }

    /** Puts bytes alone on a tape that is empty. */
    static void put(TurfBog bog, byte... bytes) {
        for (int at = 0; at < bytes.length; at += 20) {
            bog.feed(number(bytes, at), number(bytes, at + 4), number(bytes, at + 8),
                    number(bytes, at + 12), number(bytes, at + 16));
        }
        bog.end(bytes.length);
    }

    static void put(TurfBog bog, int... bytes) {
        byte[] row = new byte[bytes.length];
        for (int i = 0; i < row.length; i++) {
            row[i] = (byte) bytes[i];
        }
        put(bog, row);
    }

    static int number(byte[] bytes, int at) {
        int number = 0;
        for (int i = at; i < at + 4; i++) {
            number = number << 8 | (i < bytes.length ? bytes[i] & 255 : 0);
        }
        return number;
    }

    /** A new bog told by texts. */
    static TurfBog bog(String... texts) {
        TurfBog bog = new TurfBog();
        for (String text : texts) {
            put(bog, text);
            bog.bog();
        }
        return bog;
    }

    static TurfBog law(TurfBog bog, String text) {
        put(bog, text);
        bog.law();
        return bog;
    }

    /** Whether the tape has so many bytes; it stays as it is. */
    static boolean tapeHas(TurfBog bog, int n) {
        return bog.end(n) && !bog.end(n + 1);
    }

    /** All that can be seen without changing it, but for the tape and the image: some 250 calls. */
    static String picture(TurfBog bog) {
        StringBuilder b = new StringBuilder();
        for (int cell = 0; cell < 25; cell++) {
            b.append("cell ").append(cell).append(':');
            for (int what = 0; what < 6; what++) {
                b.append(' ').append(bog.cell(cell, what));
            }
            b.append('\n');
        }
        for (int hearth = 0; hearth < bog.count(0); hearth++) {
            b.append("hearth ").append(hearth).append(':');
            for (int what = 0; what < 4; what++) {
                b.append(' ').append(bog.hearth(hearth, what));
            }
            b.append('\n');
        }
        for (int ago = 0; ago < Math.min(3, bog.count(11)); ago++) {
            b.append("log ").append(ago).append(':');
            for (int what = 0; what < 5; what++) {
                b.append(' ').append(bog.log(ago, what));
            }
            b.append('\n');
        }
        b.append("counts:");
        for (int what = 0; what < 13; what++) {
            b.append(' ').append(bog.count(what));
        }
        int seed = bog.seed(0);
        bog.seed(seed);
        // What a cell gains and sinks tells of the law, which is not seen by itself.
        b.append("\nlaw: ").append(bog.cell(0, 9)).append(' ').append(bog.cell(0, 10));
        b.append("\nseed: ").append(seed).append("\nfault: ").append(bog.fault()).append('\n');
        return b.toString();
    }

    static int bits(int... which) {
        int set = 0;
        for (int one : which) {
            set |= 1 << one;
        }
        return set;
    }

    static void finish() {
        System.out.println(checks + " checks, " + wrong + " wrong");
        if (wrong != 0 || checks == 0) {
            System.exit(1);
        }
    }
}

import java.nio.charset.StandardCharsets;

/** What the tests share: answers that are due, calls that refuse, and texts put on the tape. */
final class Check {
    private static int checks = 0;
    private static int wrong = 0;

    private Check() {
    }

    static void due(String what, long got, long want) {
        checks++;
        if (got != want) {
            wrong++;
            System.out.println(what + " answered " + got + ", due is " + want);
        }
    }

    static void due(String what, boolean got, boolean want) {
        due(what, got ? 1 : 0, want ? 1 : 0);
    }

    /** The call throws exactly this kind: a kind below it would be one of the machine's own. */
    static void refuses(String what, Class<? extends RuntimeException> kind, Runnable call) {
        checks++;
        String got = "nothing";
        try {
            call.run();
        } catch (RuntimeException e) {
            got = e.getClass().getName();
        }
        if (!got.equals(kind.getName())) {
            wrong++;
            System.out.println(what + " threw " + got + ", due is " + kind.getName());
        }
    }

    static void put(TurfBog bog, String text) {
        put(bog, text.getBytes(StandardCharsets.ISO_8859_1));
    }

    /** Puts bytes alone on a tape that is empty. */
    static void put(TurfBog bog, byte... bytes) {
        for (int at = 0; at < bytes.length; at += 20) {
            bog.feed(number(bytes, at), number(bytes, at + 4), number(bytes, at + 8),
                    number(bytes, at + 12), number(bytes, at + 16));
        }
        bog.end(bytes.length);
    }

    static void put(TurfBog bog, int... bytes) {
        byte[] row = new byte[bytes.length];
        for (int i = 0; i < row.length; i++) {
            row[i] = (byte) bytes[i];
        }
        put(bog, row);
    }

    static int number(byte[] bytes, int at) {
        int number = 0;
        for (int i = at; i < at + 4; i++) {
            number = number << 8 | (i < bytes.length ? bytes[i] & 255 : 0);
        }
        return number;
    }

    /** A new bog told by texts. */
    static TurfBog bog(String... texts) {
        TurfBog bog = new TurfBog();
        for (String text : texts) {
            put(bog, text);
            bog.bog();
        }
        return bog;
    }

    static TurfBog law(TurfBog bog, String text) {
        put(bog, text);
        bog.law();
        return bog;
    }

    static int bits(int... which) {
        int set = 0;
        for (int one : which) {
            set |= 1 << one;
        }
        return set;
    }

    static void finish() {
        System.out.println(checks + " checks, " + wrong + " wrong");
        if (wrong != 0 || checks == 0) {
            System.exit(1);
        }
    }
}

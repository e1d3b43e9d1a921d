import java.nio.charset.StandardCharsets;

/** What the project's own tests share: answers compared, exceptions awaited, texts fed. */
final class Check {
    interface Call {
        void run();
    }

    private static int wrong = 0;
    private static int looked = 0;

    private Check() {
    }

    static void is(String call, long got, long want) {
        looked++;
        if (got != want) {
            wrong++;
            System.out.println(call + " answered " + got + ", due is " + want);
        }
    }

    static void is(String call, boolean got, boolean want) {
        is(call, got ? 1 : 0, want ? 1 : 0);
    }

    static void fails(String call, Class<? extends RuntimeException> due, Call run) {
        looked++;
        String got = "nothing";
        try {
            run.run();
        } catch (RuntimeException e) {
            got = e.getClass().getName();
        }
        if (!got.equals(due.getName())) {
            wrong++;
            System.out.println(call + " threw " + got + ", due is " + due.getName());
        }
    }

    /** The tape has the bytes of a text alone. */
    static void tape(LeanCity x, String text) {
        tape(x, text.getBytes(StandardCharsets.ISO_8859_1));
    }

    static void tape(LeanCity x, byte[] bytes) {
        x.end(0);
        int[] five = new int[5];
        for (int from = 0; from < bytes.length; from += 20) {
            for (int i = 0; i < 5; i++) {
                five[i] = 0;
                for (int k = 0; k < 4; k++) {
                    int at = from + 4 * i + k;
                    five[i] = five[i] << 8 | (at < bytes.length ? bytes[at] & 255 : 0);
                }
            }
            x.feed(five[0], five[1], five[2], five[3], five[4]);
        }
        x.end(bytes.length);
    }

    static void tape(LeanCity x, int... bytes) {
        byte[] row = new byte[bytes.length];
        for (int i = 0; i < bytes.length; i++) {
            row[i] = (byte) bytes[i];
        }
        tape(x, row);
    }

    static LeanCity city(String text) {
        LeanCity x = new LeanCity();
        more(x, text);
        return x;
    }

    static int more(LeanCity x, String text) {
        tape(x, text);
        return x.city();
    }

    static int law(LeanCity x, String text) {
        tape(x, text);
        return x.law();
    }

    static void wrongCity(String text, int fault) {
        wrongCity(new LeanCity(), text, fault);
    }

    static void wrongCity(LeanCity x, String text, int fault) {
        tape(x, text);
        fails("city of '" + text + "'", IllegalArgumentException.class, x::city);
        is("fault of '" + text + "'", x.fault(), fault);
        is("the tape behind '" + text + "'", x.feed(0, 0, 0, 0, 0), 20);
    }

    static void wrongLaw(String text, int fault) {
        LeanCity x = new LeanCity();
        tape(x, text);
        fails("law of '" + text + "'", IllegalArgumentException.class, x::law);
        is("fault of '" + text + "'", x.fault(), fault);
        is("lines behind '" + text + "'", x.count(3), -1);
        is("the tape behind '" + text + "'", x.feed(0, 0, 0, 0, 0), 20);
    }

    static void done() {
        System.out.println(looked + " looked at, " + wrong + " wrong");
        if (wrong != 0) {
            System.exit(1);
        }
    }
}

import java.nio.charset.StandardCharsets;

/** What the project's own tests share: answers compared, exceptions awaited, texts fed. */
final class Check {
    interface Call {
        void run();
    }

    private static int wrong = 0;
    private static int looked = 0;
    private static int sentences = 0;
    private static int lookedAhead = 0;
    private static String sentence = "";

    private Check() {
    }

    /** What is looked at from here on is what one sentence of the document says, told with each answer that is not due. */
    static void says(String words) {
        endSentence();
        sentences++;
        lookedAhead = looked;
        sentence = words;
    }

    private static void endSentence() {
        if (!sentence.isEmpty() && looked == lookedAhead) {
            miss("nothing was looked at");
        }
    }

    private static void miss(String what) {
        wrong++;
        System.out.println(what + (sentence.isEmpty() ? "" : " [" + sentence + "]"));
    }

    static void is(String call, long got, long want) {
        looked++;
        if (got != want) {
            miss(call + " answered " + got + ", due is " + want);
        }
    }

    static void is(String call, String got, String want) {
        looked++;
        if (!got.equals(want)) {
            miss(call + " answered\n  " + got + ", due is\n  " + want);
        }
    }

    static void is(String call, boolean got, boolean want) {
        is(call, got ? 1 : 0, want ? 1 : 0);
    }

    static void fails(String call, Class<? extends RuntimeException> due, Call run) {
        looked++;
        String got = "nothing";
        try {
            run.run();
        } catch (RuntimeException e) {
            got = e.getClass().getName();
        }
        if (!got.equals(due.getName())) {
            miss(call + " threw " + got + ", due is " + due.getName());
        }
    }

    /** The tape has the bytes of a text alone. */
    static void tape(LeanCity x, String text) {
        tape(x, text.getBytes(StandardCharsets.ISO_8859_1));
    }

    static void tape(LeanCity x, byte[] bytes) {
        x.end(0);
        int[] five = new int[5];
        for (int from = 0; from < bytes.length; from += 20) {
            for (int i = 0; i < 5; i++) {
                five[i] = 0;
                for (int k = 0; k < 4; k++) {
                    int at = from + 4 * i + k;
                    five[i] = five[i] << 8 | (at < bytes.length ? bytes[at] & 255 : 0);
                }
            }
            x.feed(five[0], five[1], five[2], five[3], five[4]);
        }
        x.end(bytes.length);
    }

    static void tape(LeanCity x, int... bytes) {
        byte[] row = new byte[bytes.length];
        for (int i = 0; i < bytes.length; i++) {
            row[i] = (byte) bytes[i];
        }
        tape(x, row);
    }

    static LeanCity city(String text) {
        LeanCity x = new LeanCity();
        more(x, text);
        return x;
    }

    static int more(LeanCity x, String text) {
        tape(x, text);
        return x.city();
    }

    static int law(LeanCity x, String text) {
        tape(x, text);
        return x.law();
    }

    static int order(LeanCity x, int k, int... told) {
        tape(x, told);
        return x.order(k);
    }

    static int means(LeanCity x, int... told) {
        tape(x, told);
        return x.means();
    }

    static int broken(LeanCity x, boolean which, int... rows) {
        tape(x, rows);
        return x.broken(which);
    }

    static int tap(LeanCity x, int... rows) {
        tape(x, rows);
        return x.tap();
    }

    static void wrongCity(String text, int fault) {
        wrongCity(new LeanCity(), text, fault);
    }

    static void wrongCity(LeanCity x, String text, int fault) {
        tape(x, text);
        fails("city of '" + text + "'", IllegalArgumentException.class, x::city);
        is("fault of '" + text + "'", x.fault(), fault);
        is("a tape that is not used up behind '" + text + "'", x.end(1), false);
    }

    static void wrongLaw(String text, int fault) {
        LeanCity x = new LeanCity();
        tape(x, text);
        fails("law of '" + text + "'", IllegalArgumentException.class, x::law);
        is("fault of '" + text + "'", x.fault(), fault);
        is("lines behind '" + text + "'", x.count(3), -1);
        is("a tape that is not used up behind '" + text + "'", x.end(1), false);
    }

    /** A ^ stands ahead of the first wrong byte of a text of THE CITY. */
    static void cityAt(String marked) {
        wrongCity(marked.replace("^", ""), marked.indexOf('^'));
    }

    static void cityAt(LeanCity x, String marked) {
        wrongCity(x, marked.replace("^", ""), marked.indexOf('^'));
    }

    static void lawAt(String marked) {
        wrongLaw(marked.replace("^", ""), marked.indexOf('^'));
    }

    /** A ^ stands ahead of the first wrong byte of a text of THE LAW, behind which the one ahead of it is still there. */
    static void lawStays(LeanCity x, String marked) {
        int lines = x.count(3);
        tape(x, marked.replace("^", ""));
        fails("law of '" + marked + "'", IllegalArgumentException.class, x::law);
        is("fault of '" + marked + "'", x.fault(), marked.indexOf('^'));
        is("lines behind '" + marked + "'", x.count(3), lines);
    }

    /** A text of THE CITY that is right, on a new object. */
    static LeanCity right(String text) {
        LeanCity x = new LeanCity();
        tape(x, text);
        is("city of '" + text + "'", cityOr(x), 1);
        is("fault of '" + text + "'", x.fault(), LeanCity.NONE);
        return x;
    }

    /** A text of THE LAW that is right. */
    static void rightLaw(LeanCity x, String text, int lines) {
        tape(x, text);
        is("law of '" + text + "'", lawOr(x), lines);
        is("fault of '" + text + "'", x.fault(), LeanCity.NONE);
    }

    private static int cityOr(LeanCity x) {
        try {
            return x.city();
        } catch (RuntimeException e) {
            return -99;
        }
    }

    private static int lawOr(LeanCity x) {
        try {
            return x.law();
        } catch (RuntimeException e) {
            return -99;
        }
    }

    static void done() {
        endSentence();
        System.out.println(looked + " looked at" + (sentences > 0 ? " for " + sentences + " sentences" : "") + ", " + wrong + " wrong");
        if (wrong != 0) {
            System.exit(1);
        }
    }
}

import java.nio.charset.StandardCharsets;
import java.util.NoSuchElementException;

/** Compares answers, counts them, and feeds texts. */
final class Check {
    interface Call {
        void run();
    }

    private static final int PATIENCE_IN_MILLISECONDS = 60_000;

    private static volatile int passed;
    private static volatile int failed;
    private static String about = "";

    // A call that does not end must fail the test instead of holding up the run.
    static {
        Thread watch = new Thread(Check::watch);
        watch.setDaemon(true);
        watch.start();
    }

    private Check() {
    }

    private static void watch() {
        int seen = -1;
        while (seen != count()) {
            seen = count();
            try {
                Thread.sleep(PATIENCE_IN_MILLISECONDS);
            } catch (InterruptedException e) {
                return;
            }
        }
        System.out.println("  a call does not end, behind " + seen + " answers");
        Runtime.getRuntime().halt(1);
    }

    static void same(String what, long got, long due) {
        tell(got == due, what + " answered " + got + ", due is " + due);
    }

    static void sameNumber(String what, double got, double due) {
        tell(got == due, what + " answered " + got + ", due is " + due);
    }

    static void sameText(String what, String got, String due) {
        tell(got.equals(due), what + " answered " + got + ", due is " + due);
    }

    static void yes(String what, boolean got) {
        tell(got, what + " is false");
    }

    static void no(String what, boolean got) {
        tell(!got, what + " is true");
    }

    static void noSuch(String what, Call call) {
        sameText(what, thrownBy(call), "NoSuchElementException");
    }

    static void illegal(String what, Call call) {
        sameText(what, thrownBy(call), "IllegalArgumentException");
    }

    interface NumberCall {
        void with(int number);
    }

    /** Both ends are answered; the numbers beside them and the extreme ones are no such element. */
    static void noSuchOutside(String what, int least, int greatest, NumberCall call) {
        outside(what, least, greatest, call, "NoSuchElementException");
    }

    static void illegalOutside(String what, int least, int greatest, NumberCall call) {
        outside(what, least, greatest, call, "IllegalArgumentException");
    }

    private static void outside(String what, int least, int greatest, NumberCall call, String exception) {
        int[] within = {least, greatest};
        for (int number : within) {
            sameText(what + " with " + number, thrownBy(() -> call.with(number)), "nothing");
        }
        int[] without = {least - 1, greatest + 1, Integer.MIN_VALUE, Integer.MAX_VALUE};
        for (int number : without) {
            sameText(what + " with " + number, thrownBy(() -> call.with(number)), exception);
        }
    }

    /** The exact class: a subclass would be another exception than the document's. */
    static String thrownBy(Call call) {
        try {
            call.run();
            return "nothing";
        } catch (RuntimeException e) {
            return e.getClass().getSimpleName();
        }
    }

    private static void tell(boolean good, String line) {
        if (good) {
            passed++;
        } else {
            failed++;
            System.out.println("  " + line + (about.isEmpty() ? "" : " (" + about + ")"));
        }
    }

    /** What the following answers are about, for the line of a wrong one. */
    static void about(String subject) {
        about = subject;
    }

    static int count() {
        return passed + failed;
    }

    static void end() {
        System.out.println("  " + passed + " answers as due, " + failed + " not");
        if (failed != 0 || passed == 0) {
            System.exit(1);
        }
    }

    static void feed(CinemaChain x, String text) {
        byte[] bytes = text.getBytes(StandardCharsets.ISO_8859_1);
        for (int at = 0; at < bytes.length; at += 20) {
            x.feed(four(bytes, at), four(bytes, at + 4), four(bytes, at + 8), four(bytes, at + 12),
                    four(bytes, at + 16));
        }
    }

    private static int four(byte[] bytes, int at) {
        int word = 0;
        for (int i = at; i < at + 4; i++) {
            word = word << 8 | (i < bytes.length ? bytes[i] & 255 : ' ');
        }
        return word;
    }

    static int load(CinemaChain x, String text) {
        feed(x, text);
        return x.load(text.length());
    }

    static int query(CinemaChain x, String text) {
        feed(x, text);
        return x.query(text.length());
    }

    static CinemaChain loaded(String text) {
        CinemaChain x = new CinemaChain();
        yes("the text of the test can be loaded", load(x, text) >= 0);
        return x;
    }

    static void loads(String text) {
        CinemaChain x = new CinemaChain();
        yes("can be loaded: " + text, load(x, text) >= 0);
        same("errorPosition behind " + text, x.errorPosition(), CinemaChain.NONE);
    }

    static void failsToLoad(String text, int code, int position) {
        CinemaChain x = new CinemaChain();
        same("load of " + text, load(x, text), -10 - code);
        same("errorPosition behind " + text, x.errorPosition(), position);
        same("houses behind " + text, x.size(0), 0);
    }

    static void failsToQuery(CinemaChain x, String text, int code, int position) {
        same("query " + text, query(x, text), CinemaChain.HIDDEN - code);
        same("errorPosition behind " + text, x.errorPosition(), position);
    }

    static String formatted(CinemaChain x, int screen) {
        int length = x.format(screen);
        StringBuilder text = new StringBuilder();
        for (int i = 0; i < length; i++) {
            text.append((char) x.formattedByte(i));
        }
        same("formattedByte behind the text", x.formattedByte(length), CinemaChain.NONE);
        return text.toString();
    }
}

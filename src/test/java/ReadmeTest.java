import java.io.IOException;
import java.nio.ByteBuffer;
import java.nio.charset.StandardCharsets;
import java.nio.file.Files;
import java.nio.file.Path;
import java.util.Arrays;
import java.util.regex.Pattern;

/** The calls under "Use" in README.md answer what stands there. */
public final class ReadmeTest {
    private static String readme;

    private ReadmeTest() {
    }

    public static void main(String[] args) throws IOException {
        readme = Files.readString(Path.of("README.md"));
        CinemaChain chain = new CinemaChain();
        String text = "house 10 50; screen 0 20 2 100; screen 0 30 1 0;"
                + "film 50 80 100 60 40; film 12 50 0 50;"
                + "prints 0 0 1; prints 0 depot 1; prints 1 0 2; fee 7;";
        feed(chain, text);
        shows("load(text.length())", chain.load(text.length()), 2);
        week(chain);
        nextWeek(chain);
        queries(chain);
        Check.end();
    }

    private static void shows(String call, int got, int due) {
        Check.same(call, got, due);
        String line = "(?m)^chain\\." + Pattern.quote(call) + "; +// " + due + ": ";
        Check.yes("README.md shows " + call + " and " + due, Pattern.compile(line).matcher(readme).find());
    }

    private static void week(CinemaChain chain) {
        shows("book(0, 0)", chain.book(0, 0), 2800);
        shows("split(1, 0, 1, 4)", chain.split(1, 0, 1, 4), -3);
        shows("move(0, -1, 0)", chain.move(0, -1, 0), 2);
        shows("split(1, 0, 1, 4)", chain.split(1, 0, 1, 4), 760);
        shows("house(0, 5)", chain.house(0, 5), 1360);
        shows("close()", chain.close(), 3560);
    }

    private static void nextWeek(CinemaChain chain) {
        shows("screen(0, 7)", chain.screen(0, 7), 1);
        shows("book(0, 1)", chain.book(0, 1), -2);
        shows("bestGain(0)", chain.bestGain(0), 1890);
        shows("program(0)", chain.program(0), 1);
        shows("closed(0, 3)", chain.closed(0, 3), 7);
        shows("undo()", chain.undo(), 4);
        shows("format(0)", chain.format(0), 22);
        Check.sameText("the text of format", Check.formatted(chain, 0), "s0: 0 0 0 0 0 0 0 held");
    }

    private static void queries(CinemaChain chain) {
        feed(chain, "many booked = 0 or takings > 2000");
        shows("query(33)", chain.query(33), 2);
        feed(chain, "first held = 2 +");
        shows("query(16)", chain.query(16), -1000000001);
        shows("errorPosition()", chain.errorPosition(), 15);
    }

    private static void feed(CinemaChain chain, String text) {
        byte[] bytes = text.getBytes(StandardCharsets.ISO_8859_1);
        ByteBuffer words = ByteBuffer.wrap(Arrays.copyOf(bytes, (bytes.length + 19) / 20 * 20));
        while (words.hasRemaining()) {
            chain.feed(words.getInt(), words.getInt(), words.getInt(), words.getInt(), words.getInt());
        }
    }
}

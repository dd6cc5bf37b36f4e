import java.nio.charset.StandardCharsets;
import java.util.ArrayList;
import java.util.List;
import java.util.function.Supplier;

/** Runs of random calls on the program and on the model; every answer must be the same. */
public final class RandomRunsTest {
    private static final int RUNS = 1500;
    private static final int CALLS = 512;

    private long seed;
    private final CinemaChain x = new CinemaChain();
    private final Model model = new Model();
    private final List<String> calls = new ArrayList<>();
    private int houses;
    private int screens;
    private int films;
    // A run with an even mixture hardly ever sees late weeks: some runs close often.
    private final boolean closesOften;

    private RandomRunsTest(int run) {
        seed = run * 7919L + 17;
        closesOften = run % 5 == 0;
    }

    public static void main(String[] args) {
        int runs = args.length > 0 ? Integer.parseInt(args[0]) : RUNS;
        Check.about("random runs");
        boolean good = true;
        for (int run = 0; run < runs && good; run++) {
            good = new RandomRunsTest(run).play(run);
        }
        Check.end();
    }

    private int below(int bound) {
        seed = seed * 6364136223846793005L + 1442695040888963407L;
        return (int) ((seed >>> 33) % bound);
    }

    private boolean chance(int percent) {
        return below(100) < percent;
    }

    /** Answers whether all answers of the run were as due. */
    private boolean play(int run) {
        boolean good = true;
        // Without a chain there is little to see: most runs begin with one.
        for (int i = 0; i < 4 && screens == 0; i++) {
            good &= load(chance(90) ? goodText() : spoilt(goodText()));
        }
        while (good && calls.size() < CALLS) {
            good = step();
        }
        Check.yes("run " + run + ", with the last answer of " + calls, good);
        return good;
    }

    private boolean same(String call, Supplier<Object> ours, Supplier<Object> due) {
        // A step may consist of many calls; behind the last promised one answers are free.
        if (calls.size() >= CALLS) {
            return true;
        }
        String got = answer(ours);
        String want = answer(due);
        calls.add(call + "=" + want);
        if (!got.equals(want)) {
            System.out.println("  " + call + " answered " + got + ", due is " + want);
        }
        return got.equals(want);
    }

    private static String answer(Supplier<Object> call) {
        try {
            return String.valueOf(call.get());
        } catch (RuntimeException e) {
            return e.getClass().getSimpleName();
        }
    }

    // ---- texts ----

    private boolean feed(String text) {
        byte[] bytes = text.getBytes(StandardCharsets.ISO_8859_1);
        boolean good = true;
        for (int at = 0; at < bytes.length; at += 20) {
            int[] w = new int[5];
            for (int i = 0; i < 20; i++) {
                w[i / 4] = w[i / 4] << 8 | (at + i < bytes.length ? bytes[at + i] & 255 : ' ');
            }
            good &= same("feed", () -> x.feed(w[0], w[1], w[2], w[3], w[4]), () -> model.feed(w));
        }
        return good;
    }

    private boolean load(String text) {
        boolean good = feed(text);
        int length = chance(97) ? text.length() : text.length() + below(45) - 22;
        good &= same("load(" + text + ")", () -> x.load(length), () -> model.load(length));
        good &= same("errorPosition", x::errorPosition, model::errorPosition);
        houses = model.size(0);
        screens = model.size(1);
        films = model.size(2);
        return good;
    }

    private boolean query(String text) {
        boolean good = feed(text);
        int length = chance(97) ? text.length() : text.length() + below(45) - 22;
        good &= same("query(" + text + ")", () -> x.query(length), () -> model.query(length));
        good &= same("errorPosition", x::errorPosition, model::errorPosition);
        return good;
    }

    private String gap() {
        return chance(90) ? " " : chance(50) ? "\n" : "  \n ";
    }

    private String goodText() {
        StringBuilder text = new StringBuilder();
        int houseCount = chance(10) ? below(6) : 1 + below(4);
        int filmCount = chance(10) ? below(8) : 1 + below(6);
        int screenCount = chance(10) ? below(13) : 1 + below(Math.max(1, Math.min(10, 4 * houseCount)));
        for (int i = 0; i < houseCount; i++) {
            clause(text, "house", 1 + below(chance(80) ? 12 : 99), chance(70) ? 20 + below(60) : 1 + below(100));
        }
        int small = 5 + below(60);
        int[] screensIn = new int[6];
        for (int i = 0; i < screenCount; i++) {
            int seats = 1 + below(chance(90) ? small : 500);
            int house = below(Math.max(1, houseCount));
            for (int t = 0; t < 20 && screensIn[house] == 4; t++) {
                house = below(Math.max(1, houseCount));
            }
            screensIn[house]++;
            clause(text, "screen", house, chance(30) ? small : seats,
                    1 + below(chance(60) ? 2 : 6), below(chance(80) ? 300 : 10000));
        }
        for (int i = 0; i < filmCount; i++) {
            addFilm(text, small);
        }
        for (int i = below(30); i > 0 && text.length() < 660; i--) {
            addPrints(text, filmCount, houseCount);
        }
        if (chance(60)) {
            clause(text, "fee", below(1000));
        }
        return text.toString();
    }

    private void addFilm(StringBuilder text, int small) {
        int demand = below(chance(85) ? small * 4 : 10000);
        int kept = chance(70) ? 60 + below(41) : below(101);
        int guarantee = below(chance(80) ? 3000 : 10000);
        int[] numbers = new int[4 + below(4)];
        numbers[0] = demand;
        numbers[1] = kept;
        numbers[2] = guarantee;
        for (int i = 3; i < numbers.length; i++) {
            numbers[i] = below(91);
        }
        clause(text, "film", numbers);
    }

    private void addPrints(StringBuilder text, int filmCount, int houseCount) {
        text.append("prints").append(chance(50) ? "" : gap()).append(below(Math.max(1, filmCount)));
        if (chance(25)) {
            text.append(gap()).append("depot");
        } else {
            text.append(' ').append(below(Math.max(1, houseCount)));
        }
        text.append(gap()).append(chance(80) ? 1 + below(3) : below(10)).append(';');
    }

    private void clause(StringBuilder text, String word, int... numbers) {
        text.append(word);
        for (int number : numbers) {
            text.append(gap()).append(chance(3) ? "000" : "").append(number);
        }
        text.append(chance(95) ? "" : gap()).append(';').append(chance(90) ? "" : gap());
    }

    private static final String[] SHREDS = {"house", "screen", "film", "prints", "fee", "depot", ";", "0", "1", "99",
        "100", "101", "91", "90", "500", "501", "9999", "10000", "99999", "100000", "99999999999999999999", "-", "\n",
        " ", "A", "x", "\u00e9", "\0", "many", "first", "and", "or", "not", "(", ")", "<", "=", ">", "takings",
        "house 5 5;", "screen 0 1 1 1;", "film 1 1 1 1;", "7", "10", "not not not not not not not", "((((((("};

    private String spoilt(String text) {
        StringBuilder spoilt = new StringBuilder(text);
        for (int i = 1 + below(3); i > 0; i--) {
            int at = below(spoilt.length() + 1);
            int kind = below(4);
            if (kind == 0) {
                spoilt.insert(at, SHREDS[below(SHREDS.length)]);
            } else if (kind == 1) {
                spoilt.delete(at, Math.min(spoilt.length(), at + 1 + below(6)));
            } else if (kind == 2) {
                spoilt.replace(at, Math.min(spoilt.length(), at + 1), SHREDS[below(SHREDS.length)]);
            } else if (chance(30)) {
                spoilt.setLength(at);
            }
        }
        return spoilt.toString();
    }

    private static final String[] PROPERTIES = {"screen", "house", "seats", "capacity", "rent", "booked", "held",
        "takings", "visitors"};

    private String value() {
        if (chance(70)) {
            return PROPERTIES[below(PROPERTIES.length)];
        }
        return String.valueOf(chance(60) ? below(4) : chance(50) ? below(200) : below(100000));
    }

    private String test(int depth) {
        StringBuilder text = new StringBuilder();
        for (int i = below(depth > 0 ? 3 : 1); i >= 0; i--) {
            text.append(factor(depth)).append(i == 0 ? "" : chance(50) ? " and " : " or ");
        }
        return text.toString();
    }

    private String factor(int depth) {
        if (depth > 0 && chance(30)) {
            return "not " + factor(depth - 1);
        }
        if (depth > 0 && chance(30)) {
            return "(" + test(depth - 1) + ")";
        }
        return value() + gap() + "<=>".charAt(below(3)) + (chance(50) ? "" : " ") + value();
    }

    private String queryText() {
        String text = (chance(50) ? "many " : "first ") + test(below(chance(90) ? 4 : 9));
        return chance(75) ? text : spoilt(text);
    }

    // ---- calls ----

    private static final int[] EXTREMES = {Integer.MIN_VALUE, Integer.MIN_VALUE + 1, -1000000000, -10, 10, 100,
        1000000000, Integer.MAX_VALUE - 1, Integer.MAX_VALUE};

    private int extreme() {
        return EXTREMES[below(EXTREMES.length)];
    }

    /** Mostly a number that exists. */
    private int oneOf(int count) {
        if (chance(96)) {
            return below(Math.max(1, count));
        }
        return chance(80) ? below(count + 4) - 2 : extreme();
    }

    private int place() {
        return chance(30) ? -1 : oneOf(houses);
    }

    private int likelyPlaceOf(int film) {
        for (int i = 0; i < 3 && film >= 0 && film < films; i++) {
            int from = below(houses + 1) - 1;
            if (model.prints(film, from) > 0) {
                return from;
            }
        }
        return place();
    }

    private int otherThan(int place) {
        return (place + 1 + 1 + below(houses)) % (houses + 1) - 1;
    }

    private boolean step() {
        int kind = below(100);
        if (kind < (closesOften ? 65 : 45)) {
            return operation();
        }
        if (kind < 47) {
            return load(chance(70) ? goodText() : spoilt(goodText()));
        }
        if (kind < 51) {
            return query(queryText());
        }
        if (kind < 56) {
            return history();
        }
        if (kind < 58) {
            return formatting();
        }
        return kind < 76 ? lookAtChain() : lookAtWeek();
    }

    private boolean operation() {
        if (closesOften ? chance(35) : chance(7)) {
            return same("close", x::close, model::close);
        }
        int s = oneOf(screens);
        int f = oneOf(films);
        int g = chance(90) && films > 1 ? (f + 1 + below(films - 1)) % films : oneOf(films);
        int h = oneOf(houses);
        int day = chance(90) ? 1 + below(6) : chance(80) ? below(12) - 3 : extreme();
        int kind = below(16);
        if (kind < 5) {
            return same("book(" + s + "," + f + ")", () -> x.book(s, f), () -> model.book(s, f));
        }
        if (kind < 8) {
            return same("split(" + s + "," + f + "," + g + "," + day + ")", () -> x.split(s, f, g, day),
                    () -> model.split(s, f, g, day));
        }
        if (kind < 9) {
            return same("empty(" + s + ")", () -> x.empty(s), () -> model.empty(s));
        }
        if (kind < 12) {
            int from = likelyPlaceOf(f);
            int to = chance(95) && houses > 0 ? otherThan(from) : place();
            return same("move(" + f + "," + from + "," + to + ")", () -> x.move(f, from, to),
                    () -> model.move(f, from, to));
        }
        if (kind < 13) {
            return same("program(" + h + ")", () -> x.program(h), () -> model.program(h));
        }
        return setting(h, s);
    }

    private boolean setting(int h, int s) {
        int kind = below(3);
        if (kind == 0) {
            int p = chance(90) ? 1 + below(100) : chance(80) ? below(120) - 10 : extreme();
            return same("setHoldover(" + h + "," + p + ")", () -> x.setHoldover(h, p), () -> model.setHoldover(h, p));
        }
        int r = chance(90) ? below(1000) : chance(80) ? below(10200) - 100 : extreme();
        if (kind == 1) {
            return same("setRent(" + s + "," + r + ")", () -> x.setRent(s, r), () -> model.setRent(s, r));
        }
        return same("setFee(" + r + ")", () -> x.setFee(r), () -> model.setFee(r));
    }

    private boolean history() {
        int kind = below(10);
        if (kind == 0) {
            return same("save", () -> {
                x.saveSnapshot();
                return "";
            }, () -> {
                model.saveSnapshot();
                return "";
            });
        }
        if (kind == 1) {
            return same("restore", x::restoreSnapshot, model::restoreSnapshot);
        }
        return kind == 2 ? same("undoCount", x::undoCount, model::undoCount) : same("undo", x::undo, model::undo);
    }

    private boolean formatting() {
        int s = oneOf(screens);
        int i = chance(95) ? below(26) - 1 : extreme();
        return chance(50) ? same("format(" + s + ")", () -> x.format(s), () -> model.format(s))
                : same("formattedByte(" + i + ")", () -> x.formattedByte(i), () -> model.formattedByte(i));
    }

    private boolean lookAtChain() {
        int what = chance(95) ? below(10) : chance(70) ? -1 : extreme();
        int h = oneOf(houses);
        int s = oneOf(screens);
        int f = oneOf(films);
        int p = place();
        int back = oneOf(Math.max(1, Math.min(22, model.size(3))));
        switch (below(8)) {
            case 0: return same("size(" + what + ")", () -> x.size(what), () -> model.size(what));
            case 1: return same("house(" + h + "," + what + ")", () -> x.house(h, what), () -> model.house(h, what));
            case 2: return same("screen(" + s + "," + what + ")", () -> x.screen(s, what), () -> model.screen(s, what));
            case 3: return same("film(" + f + "," + what + ")", () -> x.film(f, what), () -> model.film(f, what));
            case 4: return same("term(" + f + "," + what + ")", () -> x.term(f, what), () -> model.term(f, what));
            case 5: return same("prints(" + f + "," + p + ")", () -> x.prints(f, p), () -> model.prints(f, p));
            case 6: return same("total(" + what + ")", () -> x.total(what), () -> model.total(what));
            default: return same("closed(" + back + "," + what + ")", () -> x.closed(back, what),
                    () -> model.closed(back, what));
        }
    }

    private boolean lookAtWeek() {
        int h = oneOf(houses);
        int s = oneOf(screens);
        int f = oneOf(films);
        int day = chance(95) ? below(7) : chance(80) ? below(12) - 3 : extreme();
        switch (below(12)) {
            case 0: return same("shown(" + s + "," + day + ")", () -> x.shown(s, day), () -> model.shown(s, day));
            case 1: return same("visitors(" + s + "," + day + ")", () -> x.visitors(s, day),
                    () -> model.visitors(s, day));
            case 2: return same("share(" + h + "," + f + ")", () -> x.share(h, f), () -> model.share(h, f));
            case 3: return same("run(" + h + "," + f + ")", () -> x.run(h, f), () -> model.run(h, f));
            case 4: return same("wouldHold(" + s + ")", () -> x.wouldHold(s), () -> model.wouldHold(s));
            case 5: return same("forecast(" + s + "," + f + ")", () -> x.forecast(s, f), () -> model.forecast(s, f));
            case 6: return same("chart(" + f + ")", () -> x.chart(f), () -> model.chart(f));
            case 7: return same("bestGain(" + h + ")", () -> x.bestGain(h), () -> model.bestGain(h));
            case 8: return same("bestFilm(" + s + ")", () -> x.bestFilm(s), () -> model.bestFilm(s));
            case 9: return same("mean", x::meanTakings, model::meanTakings);
            case 10: return same("filled", x::filled, model::filled);
            default: return chance(15) ? same("bestMove", x::bestMove, model::bestMove)
                    : same("undoCount", x::undoCount, model::undoCount);
        }
    }
}

import java.math.BigInteger;
import java.nio.charset.StandardCharsets;
import java.util.ArrayList;
import java.util.Arrays;
import java.util.HashMap;
import java.util.List;
import java.util.Map;
import java.util.NoSuchElementException;
import java.util.function.IntPredicate;
import java.util.function.IntUnaryOperator;

/**
 * The document once more, as literally as it can be said and without regard to speed: everything is
 * worked out anew from the bookings and the history of the closed weeks.
 */
final class Model {
    static final int NONE = -1;

    record House(int price, int screens) { }

    record Screen(int house, int seats, int shows) {
        int capacity() {
            return seats * shows;
        }
    }

    record Film(int demand, int kept, int guarantee, List<Integer> terms) { }

    record Token(int at, char kind, String text) {
        boolean is(String other) {
            return kind != 'e' && text.equals(other);
        }
    }

    /** A closed week: its amounts, and the films that each house showed. */
    record Past(int takings, int shares, int rents, int fees, int held, boolean[][] shown, int[] filmTakings) { }

    static final class TextError extends RuntimeException {
        private static final long serialVersionUID = 1L;
        final int code;
        final int at;

        TextError(int code, int at) {
            this.code = code;
            this.at = at;
        }
    }

    /** What a screen shows on the seven days. */
    static final class Booking {
        final int first;
        final int second;
        final int day;
        final boolean held;

        Booking(int first, int second, int day, boolean held) {
            this.first = first;
            this.second = second;
            this.day = day;
            this.held = held;
        }

        int on(int someDay) {
            return day > 0 && someDay >= day ? second : first;
        }

        boolean same(Booking other) {
            return first == other.first && second == other.second && day == other.day;
        }
    }

    static final Booking EMPTY = new Booking(NONE, NONE, 0, false);

    static final class Now {
        int fee;
        int moves;
        List<Integer> holdover = new ArrayList<>();
        List<Integer> rent = new ArrayList<>();
        Map<String, Integer> prints = new HashMap<>();
        List<Booking> bookings = new ArrayList<>();
        List<Past> past = new ArrayList<>();

        Now copy() {
            Now other = new Now();
            other.fee = fee;
            other.moves = moves;
            other.holdover = new ArrayList<>(holdover);
            other.rent = new ArrayList<>(rent);
            other.prints = new HashMap<>(prints);
            other.bookings = new ArrayList<>(bookings);
            other.past = new ArrayList<>(past);
            return other;
        }

        int printsAt(int film, int place) {
            return prints.getOrDefault(film + " " + place, 0);
        }

        void setPrints(int film, int place, int n) {
            prints.put(film + " " + place, n);
        }
    }

    private byte[] buffer = new byte[0];
    private int errorAt = NONE;
    private String formatted = "";
    private List<House> houses = new ArrayList<>();
    private List<Screen> screens = new ArrayList<>();
    private List<Film> films = new ArrayList<>();
    private Now now = new Now();
    private List<Now> undos = new ArrayList<>();
    private Now snapshot;

    // ---- texts ----

    int feed(int... words) {
        if (buffer.length + 20 > 700) {
            return NONE;
        }
        int old = buffer.length;
        buffer = Arrays.copyOf(buffer, old + 20);
        for (int i = 0; i < 20; i++) {
            buffer[old + i] = (byte) (words[i / 4] >> (24 - 8 * (i % 4)));
        }
        return buffer.length;
    }

    private List<Token> tokens;
    private int next;

    private void cut(int length) {
        String text = new String(buffer, 0, length, StandardCharsets.ISO_8859_1);
        buffer = new byte[0];
        tokens = new ArrayList<>();
        next = 0;
        int at = 0;
        while (at < length) {
            char c = text.charAt(at);
            int end = at + 1;
            if (c == ' ' || c == '\n') {
                at++;
                continue;
            }
            boolean word = "abcdefghijklmnopqrstuvwxyz".indexOf(c) >= 0;
            boolean number = "0123456789".indexOf(c) >= 0;
            String more = word ? "abcdefghijklmnopqrstuvwxyz" : number ? "0123456789" : "";
            while (end < length && more.indexOf(text.charAt(end)) >= 0) {
                end++;
            }
            tokens.add(new Token(at, word ? 'w' : number ? 'n' : 's', text.substring(at, end)));
            at = end;
        }
        tokens.add(new Token(length, 'e', ""));
    }

    private Token peek() {
        return tokens.get(next);
    }

    private boolean skip(String text) {
        if (peek().is(text)) {
            next++;
            return true;
        }
        return false;
    }

    private void need(String text) {
        if (!skip(text)) {
            throw new TextError(1, peek().at);
        }
    }

    private int number(int least, int most) {
        Token token = peek();
        if (token.kind != 'n') {
            throw new TextError(1, token.at);
        }
        BigInteger value = new BigInteger(token.text);
        if (value.compareTo(BigInteger.valueOf(least)) < 0 || value.compareTo(BigInteger.valueOf(most)) > 0) {
            throw new TextError(2, token.at);
        }
        next++;
        return value.intValue();
    }

    int load(int length) {
        if (length < 0 || length > buffer.length) {
            throw new IllegalArgumentException();
        }
        cut(length);
        Model draft = new Model();
        draft.tokens = tokens;
        try {
            while (draft.peek().kind != 'e') {
                draft.readClause();
            }
        } catch (TextError e) {
            errorAt = e.at;
            return -10 - e.code;
        }
        errorAt = NONE;
        houses = draft.houses;
        screens = draft.screens;
        films = draft.films;
        now = draft.now;
        undos.clear();
        snapshot = null;
        return screens.size();
    }

    private void readClause() {
        int at = peek().at;
        if (skip("house")) {
            if (houses.size() == 4) {
                throw new TextError(3, at);
            }
            houses.add(new House(number(1, 99), 0));
            now.holdover.add(number(1, 100));
        } else if (skip("screen")) {
            if (screens.size() == 10) {
                throw new TextError(3, at);
            }
            int houseAt = peek().at;
            int house = number(0, houses.size() - 1);
            if (screens.stream().filter(s -> s.house == house).count() == 4) {
                throw new TextError(4, houseAt);
            }
            screens.add(new Screen(house, number(1, 500), number(1, 6)));
            now.rent.add(number(0, 9999));
            now.bookings.add(EMPTY);
        } else if (skip("film")) {
            if (films.size() == 6) {
                throw new TextError(3, at);
            }
            int demand = number(0, 9999);
            int kept = number(0, 100);
            int guarantee = number(0, 9999);
            List<Integer> terms = new ArrayList<>();
            terms.add(number(0, 90));
            while (terms.size() < 4 && !peek().is(";")) {
                terms.add(number(0, 90));
            }
            films.add(new Film(demand, kept, guarantee, terms));
        } else if (skip("prints")) {
            int film = number(0, films.size() - 1);
            int place = skip("depot") ? NONE : number(0, houses.size() - 1);
            now.setPrints(film, place, number(0, 9));
        } else if (skip("fee")) {
            now.fee = number(0, 999);
        } else {
            throw new TextError(1, at);
        }
        need(";");
    }

    int query(int length) {
        if (length < 0 || length > 200 || length > buffer.length) {
            throw new IllegalArgumentException();
        }
        cut(length);
        IntPredicate test;
        boolean many;
        try {
            many = skip("many");
            if (!many) {
                need("first");
            }
            test = readTest(0);
            if (peek().kind != 'e') {
                throw new TextError(1, peek().at);
            }
        } catch (TextError e) {
            errorAt = e.at;
            return -1000000000 - e.code;
        }
        errorAt = NONE;
        int count = 0;
        for (int screen = 0; screen < screens.size(); screen++) {
            if (test.test(screen)) {
                if (!many) {
                    return screen;
                }
                count++;
            }
        }
        return many ? count : NONE;
    }

    private IntPredicate readTest(int open) {
        IntPredicate test = readConjunction(open);
        while (skip("or")) {
            test = test.or(readConjunction(open));
        }
        return test;
    }

    private IntPredicate readConjunction(int open) {
        IntPredicate test = readFactor(open);
        while (skip("and")) {
            test = test.and(readFactor(open));
        }
        return test;
    }

    private IntPredicate readFactor(int open) {
        int at = peek().at;
        if (skip("not")) {
            if (open + 1 == 7) {
                throw new TextError(3, at);
            }
            return readFactor(open + 1).negate();
        }
        if (skip("(")) {
            if (open + 1 == 7) {
                throw new TextError(3, at);
            }
            IntPredicate inner = readTest(open + 1);
            need(")");
            return inner;
        }
        IntUnaryOperator left = readValue();
        String sign = peek().text;
        if (!sign.equals("<") && !sign.equals("=") && !sign.equals(">")) {
            throw new TextError(1, peek().at);
        }
        next++;
        IntUnaryOperator right = readValue();
        return s -> {
            int order = Integer.compare(left.applyAsInt(s), right.applyAsInt(s));
            return sign.equals("<") ? order < 0 : sign.equals("=") ? order == 0 : order > 0;
        };
    }

    private IntUnaryOperator readValue() {
        if (peek().kind == 'n') {
            int value = number(0, 99999);
            return s -> value;
        }
        Token token = peek();
        Map<String, IntUnaryOperator> properties = Map.of(
                "screen", s -> s,
                "house", s -> screens.get(s).house,
                "seats", s -> screens.get(s).seats,
                "capacity", s -> screens.get(s).capacity(),
                "rent", s -> now.rent.get(s),
                "booked", s -> now.bookings.get(s).first == NONE ? 0 : now.bookings.get(s).day == 0 ? 1 : 2,
                "held", s -> now.bookings.get(s).held ? 1 : 0,
                "takings", s -> takingsOf(s),
                "visitors", s -> visitorsOf(s));
        if (token.kind != 'w' || !properties.containsKey(token.text)) {
            throw new TextError(1, token.at);
        }
        next++;
        return properties.get(token.text);
    }

    int errorPosition() {
        return errorAt;
    }

    // ---- takings ----

    private int firstShown(int film) {
        for (int w = 0; w < now.past.size(); w++) {
            for (boolean[] inHouse : now.past.get(w).shown) {
                if (inHouse[film]) {
                    return w;
                }
            }
        }
        return NONE;
    }

    private int age(int film) {
        int first = firstShown(film);
        return first == NONE ? 0 : now.past.size() - first;
    }

    private int daily(int film) {
        int demand = films.get(film).demand;
        for (int step = age(film); step > 0; step--) {
            demand = demand * films.get(film).kept / 100;
        }
        return demand;
    }

    private int visitorsOn(int screen, int day) {
        int film = now.bookings.get(screen).on(day);
        if (film == NONE) {
            return 0;
        }
        List<Integer> showing = new ArrayList<>();
        for (int s = 0; s < screens.size(); s++) {
            if (screens.get(s).house == screens.get(screen).house && now.bookings.get(s).on(day) == film) {
                showing.add(s);
            }
        }
        // The sort is stable: on a tie the lower number stays first.
        showing.sort((a, b) -> screens.get(b).capacity() - screens.get(a).capacity());
        int left = daily(film);
        for (int s : showing) {
            int come = Math.min(left, screens.get(s).capacity());
            if (s == screen) {
                return come;
            }
            left -= come;
        }
        throw new IllegalStateException();
    }

    private int price(int screen) {
        return houses.get(screens.get(screen).house).price;
    }

    private int visitorsOf(int screen) {
        int sum = 0;
        for (int day = 0; day < 7; day++) {
            sum += visitorsOn(screen, day);
        }
        return sum;
    }

    private int takingsOf(int screen) {
        return visitorsOf(screen) * price(screen);
    }

    private int filmTakingsOn(int screen, int film) {
        int sum = 0;
        for (int day = 0; day < 7; day++) {
            if (now.bookings.get(screen).on(day) == film) {
                sum += visitorsOn(screen, day) * price(screen);
            }
        }
        return sum;
    }

    private int filmTakingsIn(int house, int film) {
        int sum = 0;
        for (int s = 0; s < screens.size(); s++) {
            if (screens.get(s).house == house) {
                sum += filmTakingsOn(s, film);
            }
        }
        return sum;
    }

    private int filmTakings(int film) {
        int sum = 0;
        for (int house = 0; house < houses.size(); house++) {
            sum += filmTakingsIn(house, film);
        }
        return sum;
    }

    private int closedTakings(int film) {
        int sum = 0;
        for (Past week : now.past) {
            sum += week.filmTakings[film];
        }
        return sum;
    }

    private int houseTakings(int house) {
        int sum = 0;
        for (int s = 0; s < screens.size(); s++) {
            sum += screens.get(s).house == house ? takingsOf(s) : 0;
        }
        return sum;
    }

    private boolean isShown(int house, int film) {
        for (int s = 0; s < screens.size(); s++) {
            for (int day = 0; day < 7; day++) {
                if (screens.get(s).house == house && now.bookings.get(s).on(day) == film) {
                    return true;
                }
            }
        }
        return false;
    }

    private int runIn(int house, int film) {
        int count = 0;
        for (Past week : now.past) {
            count += week.shown[house][film] ? 1 : 0;
        }
        return count;
    }

    private int shareFrom(int house, int film, int takings) {
        List<Integer> terms = films.get(film).terms;
        int run = runIn(house, film);
        int term = run < terms.size() ? terms.get(run) : terms.get(terms.size() - 1);
        return Math.max(takings * term / 100, Math.min(films.get(film).guarantee, takings));
    }

    private int shareIn(int house, int film) {
        return isShown(house, film) ? shareFrom(house, film, filmTakingsIn(house, film)) : 0;
    }

    private int sharesIn(int house) {
        int sum = 0;
        for (int film = 0; film < films.size(); film++) {
            sum += shareIn(house, film);
        }
        return sum;
    }

    private int rentsIn(int house) {
        int sum = 0;
        for (int s = 0; s < screens.size(); s++) {
            sum += screens.get(s).house == house ? now.rent.get(s) : 0;
        }
        return sum;
    }

    private boolean holds(int screen) {
        int film = now.bookings.get(screen).on(6);
        if (film == NONE) {
            return false;
        }
        int days = 0;
        for (int day = 0; day < 7; day++) {
            days += now.bookings.get(screen).on(day) == film ? 1 : 0;
        }
        long greatest = (long) screens.get(screen).capacity() * price(screen) * days;
        return filmTakingsOn(screen, film) * 100L >= now.holdover.get(screens.get(screen).house) * greatest;
    }

    private int shownAtOnce(int house, int film, int day) {
        int count = 0;
        for (int s = 0; s < screens.size(); s++) {
            if (screens.get(s).house == house && now.bookings.get(s).on(day) == film) {
                count++;
            }
        }
        return count;
    }

    private boolean printsSuffice(int house) {
        for (int film = 0; film < films.size(); film++) {
            for (int day = 0; day < 7; day++) {
                if (shownAtOnce(house, film, day) > now.printsAt(film, house)) {
                    return false;
                }
            }
        }
        return true;
    }

    // ---- best programs ----

    private List<Integer> screensOf(int house) {
        List<Integer> list = new ArrayList<>();
        for (int s = 0; s < screens.size(); s++) {
            if (screens.get(s).house == house) {
                list.add(s);
            }
        }
        return list;
    }

    /** The films of a program, -1 for an empty screen; every program is tried in ascending order. */
    private int[] bestProgram(int house) {
        List<Integer> list = screensOf(house);
        int[] choice = new int[list.size()];
        int[] best = null;
        int bestGain = -1;
        int options = films.size() + 1;
        int programs = (int) Math.pow(options, list.size());
        for (int number = 0; number < programs; number++) {
            int rest = number;
            boolean fits = true;
            for (int i = choice.length - 1; i >= 0; i--) {
                choice[i] = rest % options - 1;
                rest /= options;
                Booking present = now.bookings.get(list.get(i));
                fits = fits && (!present.held || present.first == choice[i]);
            }
            if (fits && fitsPrints(house, choice)) {
                int gain = gainOf(house, list, choice);
                if (gain > bestGain) {
                    bestGain = gain;
                    best = choice.clone();
                }
            }
        }
        return best;
    }

    private boolean fitsPrints(int house, int[] choice) {
        for (int film = 0; film < films.size(); film++) {
            int wanted = film;
            if (Arrays.stream(choice).filter(f -> f == wanted).count() > now.printsAt(film, house)) {
                return false;
            }
        }
        return true;
    }

    private int gainOf(int house, List<Integer> list, int[] choice) {
        int gain = 0;
        for (int film = 0; film < films.size(); film++) {
            List<Integer> capacities = new ArrayList<>();
            for (int i = 0; i < choice.length; i++) {
                if (choice[i] == film) {
                    capacities.add(screens.get(list.get(i)).capacity());
                }
            }
            if (!capacities.isEmpty()) {
                int left = daily(film);
                int visitors = 0;
                for (int capacity : capacities) {
                    int come = Math.min(left, capacity);
                    visitors += come;
                    left -= come;
                }
                int takings = 7 * visitors * houses.get(house).price;
                gain += takings - shareFrom(house, film, takings);
            }
        }
        return gain;
    }

    int bestGain(int house) {
        checkHouse(house);
        return gainOf(house, screensOf(house), bestProgram(house));
    }

    int bestFilm(int screen) {
        checkScreen(screen);
        int house = screens.get(screen).house;
        return bestProgram(house)[screensOf(house).indexOf(screen)];
    }

    int bestMove() {
        Map<String, Integer> known = new HashMap<>();
        int without = sumOfGains(known);
        int most = without;
        int found = NONE;
        Now kept = now;
        List<Now> keptUndos = undos;
        undos = new ArrayList<>();
        for (int film = 0; film < films.size(); film++) {
            for (int from = NONE; from < houses.size(); from++) {
                for (int to = NONE; to < houses.size(); to++) {
                    now = kept.copy();
                    for (int s = 0; s < screens.size(); s++) {
                        if (!now.bookings.get(s).held) {
                            now.bookings.set(s, EMPTY);
                        }
                    }
                    if (from != to && move(film, from, to) >= 0) {
                        int sum = sumOfGains(known);
                        if (sum > most) {
                            most = sum;
                            found = 100 * film + 10 * (from + 1) + to + 1;
                        }
                    }
                }
            }
        }
        now = kept;
        undos = keptUndos;
        return found;
    }

    private int sumOfGains(Map<String, Integer> known) {
        int sum = 0;
        for (int house = 0; house < houses.size(); house++) {
            StringBuilder key = new StringBuilder().append(house);
            for (int film = 0; film < films.size(); film++) {
                key.append(' ').append(now.printsAt(film, house));
            }
            Integer gain = known.get(key.toString());
            if (gain == null) {
                gain = bestGain(house);
                known.put(key.toString(), gain);
            }
            sum += gain;
        }
        return sum;
    }

    // ---- answers ----

    private void checkHouse(int house) {
        check(house >= 0 && house < houses.size());
    }

    private void checkScreen(int screen) {
        check(screen >= 0 && screen < screens.size());
    }

    private void checkFilm(int film) {
        check(film >= 0 && film < films.size());
    }

    private void checkPlace(int place) {
        check(place >= -1 && place < houses.size());
    }

    private static void check(boolean there) {
        if (!there) {
            throw new NoSuchElementException();
        }
    }

    private static void demand(boolean good) {
        if (!good) {
            throw new IllegalArgumentException();
        }
    }

    private static int pick(int what, int... values) {
        check(what >= 0 && what < values.length);
        return values[what];
    }

    int size(int what) {
        int booked = (int) now.bookings.stream().filter(b -> b.first != NONE).count();
        int held = (int) now.bookings.stream().filter(b -> b.held).count();
        return pick(what, houses.size(), screens.size(), films.size(), now.past.size(), now.fee, now.moves, booked,
                held);
    }

    int house(int house, int what) {
        checkHouse(house);
        int takings = houseTakings(house);
        int shares = sharesIn(house);
        return pick(what, houses.get(house).price, now.holdover.get(house), screensOf(house).size(), takings, shares,
                takings - shares - rentsIn(house));
    }

    int screen(int screen, int what) {
        checkScreen(screen);
        Screen s = screens.get(screen);
        Booking b = now.bookings.get(screen);
        return pick(what, s.house, s.seats, s.shows, now.rent.get(screen), b.first, b.second, b.day, b.held ? 1 : 0,
                takingsOf(screen));
    }

    int film(int film, int what) {
        checkFilm(film);
        Film f = films.get(film);
        return pick(what, f.demand, f.kept, f.guarantee, f.terms.size(), age(film), daily(film), filmTakings(film),
                closedTakings(film));
    }

    int term(int film, int index) {
        checkFilm(film);
        check(index >= 0 && index < films.get(film).terms.size());
        return films.get(film).terms.get(index);
    }

    int prints(int film, int place) {
        checkFilm(film);
        checkPlace(place);
        return now.printsAt(film, place);
    }

    int shown(int screen, int day) {
        checkScreen(screen);
        demand(day >= 0 && day <= 6);
        return now.bookings.get(screen).on(day);
    }

    int visitors(int screen, int day) {
        checkScreen(screen);
        demand(day >= 0 && day <= 6);
        return visitorsOn(screen, day);
    }

    int share(int house, int film) {
        checkHouse(house);
        checkFilm(film);
        return shareIn(house, film);
    }

    int run(int house, int film) {
        checkHouse(house);
        checkFilm(film);
        return runIn(house, film);
    }

    boolean wouldHold(int screen) {
        checkScreen(screen);
        return holds(screen);
    }

    int forecast(int screen, int film) {
        checkScreen(screen);
        checkFilm(film);
        Booking kept = now.bookings.get(screen);
        now.bookings.set(screen, new Booking(film, NONE, 0, false));
        int takings = takingsOf(screen);
        now.bookings.set(screen, kept);
        return takings;
    }

    int chart(int place) {
        check(place >= 0 && place < films.size());
        List<Integer> order = new ArrayList<>();
        for (int film = 0; film < films.size(); film++) {
            order.add(film);
        }
        order.sort((a, b) -> Integer.compare(closedTakings(b) + filmTakings(b), closedTakings(a) + filmTakings(a)));
        return order.get(place);
    }

    int total(int what) {
        int[] sums = new int[4];
        for (Past w : now.past) {
            sums[0] += w.takings;
            sums[1] += w.shares;
            sums[2] += w.rents;
            sums[3] += w.fees;
        }
        return pick(what, sums[0], sums[1], sums[2], sums[3], sums[0] - sums[1] - sums[2] - sums[3]);
    }

    int closed(int back, int what) {
        check(back >= 0 && back < now.past.size() && back < 20);
        Past w = now.past.get(now.past.size() - 1 - back);
        return pick(what, w.takings, w.shares, w.rents, w.fees, w.held);
    }

    double meanTakings() {
        return now.past.isEmpty() ? 0 : (double) total(0) / (double) now.past.size();
    }

    float filled() {
        int come = 0;
        int room = 0;
        for (int s = 0; s < screens.size(); s++) {
            come += visitorsOf(s);
            room += 7 * screens.get(s).capacity();
        }
        return screens.isEmpty() ? 0 : (float) come / (float) room;
    }

    // ---- operations ----

    private void record(Now before) {
        undos.add(before);
        if (undos.size() > 10) {
            undos.remove(0);
        }
    }

    int book(int screen, int film) {
        checkScreen(screen);
        checkFilm(film);
        return take(screen, new Booking(film, NONE, 0, false));
    }

    int split(int screen, int first, int second, int day) {
        checkScreen(screen);
        checkFilm(first);
        checkFilm(second);
        demand(first != second && day >= 1 && day <= 6);
        return take(screen, new Booking(first, second, day, false));
    }

    private int take(int screen, Booking booking) {
        if (now.bookings.get(screen).held) {
            return -2;
        }
        Now before = now.copy();
        now.bookings.set(screen, booking);
        if (!printsSuffice(screens.get(screen).house)) {
            now = before;
            return -3;
        }
        record(before);
        return takingsOf(screen);
    }

    int empty(int screen) {
        checkScreen(screen);
        if (now.bookings.get(screen).held) {
            return -2;
        }
        record(now.copy());
        return now.bookings.set(screen, EMPTY).first;
    }

    int move(int film, int from, int to) {
        checkFilm(film);
        checkPlace(from);
        checkPlace(to);
        demand(from != to);
        int there = now.printsAt(film, from);
        if (there == 0) {
            return -2;
        }
        Now before = now.copy();
        now.setPrints(film, from, there - 1);
        if (from != NONE && !printsSuffice(from)) {
            now = before;
            return -3;
        }
        if (now.printsAt(film, to) == 9) {
            now = before;
            return -4;
        }
        now.setPrints(film, to, now.printsAt(film, to) + 1);
        now.moves++;
        record(before);
        return now.printsAt(film, to);
    }

    int close() {
        if (now.past.size() == 60) {
            return -2;
        }
        record(now.copy());
        int takings = 0;
        int shares = 0;
        int rents = 0;
        boolean[][] shown = new boolean[houses.size()][films.size()];
        int[] ofFilm = new int[films.size()];
        for (int house = 0; house < houses.size(); house++) {
            takings += houseTakings(house);
            shares += sharesIn(house);
            rents += rentsIn(house);
            for (int film = 0; film < films.size(); film++) {
                shown[house][film] = isShown(house, film);
                ofFilm[film] += filmTakingsIn(house, film);
            }
        }
        List<Booking> following = new ArrayList<>();
        int held = 0;
        for (int s = 0; s < screens.size(); s++) {
            boolean stays = holds(s);
            following.add(stays ? new Booking(now.bookings.get(s).on(6), NONE, 0, true) : EMPTY);
            held += stays ? 1 : 0;
        }
        now.past.add(new Past(takings, shares, rents, now.moves * now.fee, held, shown, ofFilm));
        now.bookings = following;
        now.moves = 0;
        return takings;
    }

    int program(int house) {
        checkHouse(house);
        record(now.copy());
        int[] best = bestProgram(house);
        List<Integer> list = screensOf(house);
        int changed = 0;
        for (int i = 0; i < best.length; i++) {
            Booking old = now.bookings.get(list.get(i));
            Booking planned = new Booking(best[i], NONE, 0, old.held);
            changed += planned.same(old) ? 0 : 1;
            now.bookings.set(list.get(i), planned);
        }
        return changed;
    }

    int setHoldover(int house, int percentage) {
        checkHouse(house);
        demand(percentage >= 1 && percentage <= 100);
        record(now.copy());
        return now.holdover.set(house, percentage);
    }

    int setRent(int screen, int rent) {
        checkScreen(screen);
        demand(rent >= 0 && rent <= 9999);
        record(now.copy());
        return now.rent.set(screen, rent);
    }

    int setFee(int fee) {
        demand(fee >= 0 && fee <= 999);
        record(now.copy());
        int before = now.fee;
        now.fee = fee;
        return before;
    }

    int format(int screen) {
        checkScreen(screen);
        formatted = "s" + screen + ":";
        for (int day = 0; day < 7; day++) {
            int film = now.bookings.get(screen).on(day);
            formatted += " " + (film == NONE ? "-" : String.valueOf(film));
        }
        formatted += now.bookings.get(screen).held ? " held" : "";
        return formatted.length();
    }

    int formattedByte(int index) {
        return index >= 0 && index < formatted.length() ? formatted.charAt(index) : NONE;
    }

    int undoCount() {
        return undos.size();
    }

    int undo() {
        if (undos.isEmpty()) {
            return NONE;
        }
        now = undos.remove(undos.size() - 1);
        return undos.size();
    }

    void saveSnapshot() {
        snapshot = now.copy();
    }

    boolean restoreSnapshot() {
        if (snapshot == null) {
            return false;
        }
        now = snapshot.copy();
        undos.clear();
        return true;
    }
}

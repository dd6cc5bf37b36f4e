import java.util.Arrays;
import java.util.NoSuchElementException;

public final class CinemaChain {
    public static final int NONE = -1;
    public static final int HIDDEN = -1000000000;

    private static final int MAX_HOUSES = 4;
    private static final int MAX_SCREENS = 10;
    private static final int MAX_SCREENS_IN_HOUSE = 4;
    private static final int MAX_FILMS = 6;
    private static final int MAX_TERMS = 4;
    private static final int MAX_PRINTS = 9;
    private static final int PLACES = MAX_HOUSES + 1;
    private static final int DAYS = 7;
    private static final int MAX_WEEKS = 60;
    private static final int KEPT_WEEKS = 20;
    private static final int MAX_UNDOS = 10;
    private static final int BUFFER_SIZE = 700;
    private static final int FEED_SIZE = 20;
    private static final int MAX_QUERY = 200;
    private static final int MAX_OPEN = 6;
    private static final int MAX_QUERY_NUMBER = 99999;

    private static final int MAX_PRICE = 99;
    private static final int MAX_PERCENTAGE = 100;
    private static final int MAX_SEATS = 500;
    private static final int MAX_SHOWS = 6;
    private static final int MAX_RENT = 9999;
    private static final int MAX_DEMAND = 9999;
    private static final int MAX_GUARANTEE = 9999;
    private static final int MAX_TERM = 90;
    private static final int MAX_FEE = 999;

    private static final int NOT_ALLOWED = 1;
    private static final int OUT_OF_RANGE = 2;
    private static final int TOO_MANY = 3;
    private static final int HOUSE_FULL = 4;

    private static final int LOAD_ERRORS = -10;
    private static final int REFUSED_FIRST = -2;
    private static final int REFUSED_SECOND = -3;
    private static final int REFUSED_THIRD = -4;

    private static final int TAKINGS = 0;
    private static final int SHARES = 1;
    private static final int RENTS = 2;
    private static final int FEES = 3;
    private static final int AMOUNTS = 4;
    private static final int HELD_BEHIND = 4;
    private static final int LOG_ROW = 5;

    private final byte[] buffer = new byte[BUFFER_SIZE];
    private int buffered;
    private int errorAt = NONE;
    private final StringBuilder formatted = new StringBuilder();

    private final Chain chain = new Chain();
    private final State state = new State();
    private final Week week = new Week(chain, state);
    private final Programs programs = new Programs(chain, state, week);
    private final Closing closing = new Closing(chain, state, week);
    private final History history = new History();
    private final Tokens tokens = new Tokens(buffer);
    private final ChainText chainText = new ChainText(tokens);
    private final QueryText queryText = new QueryText(tokens, chain, state, week);

    public CinemaChain() {
        state.clear();
    }

    public int feed(int a, int b, int c, int d, int e) {
        if (buffered + FEED_SIZE > BUFFER_SIZE) {
            return NONE;
        }
        append(a);
        append(b);
        append(c);
        append(d);
        append(e);
        return buffered;
    }

    private void append(int four) {
        for (int shift = 24; shift >= 0; shift -= 8) {
            if (buffered < BUFFER_SIZE) {
                buffer[buffered] = (byte) (four >> shift);
                buffered++;
            }
        }
    }

    public int load(int length) throws IllegalArgumentException {
        checkLength(length, BUFFER_SIZE);
        chainText.read(length);
        finishReading();
        if (tokens.failed()) {
            return LOAD_ERRORS - tokens.error;
        }
        chain.copyFrom(chainText.chain);
        state.copyFrom(chainText.state);
        history.discardAll();
        week.refresh();
        return chain.screens;
    }

    public int query(int length) throws IllegalArgumentException {
        checkLength(length, MAX_QUERY);
        int answer = queryText.evaluate(length);
        finishReading();
        return tokens.failed() ? HIDDEN - tokens.error : answer;
    }

    private void checkLength(int length, int most) {
        if (length < 0 || length > most || length > buffered) {
            throw new IllegalArgumentException("length");
        }
    }

    private void finishReading() {
        buffered = 0;
        errorAt = tokens.failed() ? tokens.errorAt : NONE;
    }

    public int errorPosition() {
        return errorAt;
    }

    public int size(int what) throws NoSuchElementException {
        switch (what) {
            case 0: return chain.houses;
            case 1: return chain.screens;
            case 2: return chain.films;
            case 3: return state.weeks;
            case 4: return state.fee;
            case 5: return state.moves;
            case 6: return state.countBooked(chain.screens);
            case 7: return state.countHeld(chain.screens);
            default: throw new NoSuchElementException("what");
        }
    }

    public int house(int house, int what) throws NoSuchElementException {
        checkHouse(house);
        switch (what) {
            case 0: return chain.price[house];
            case 1: return state.holdover[house];
            case 2: return chain.screensIn[house];
            case 3: return week.houseTakings(house);
            case 4: return week.houseShares(house);
            case 5: return week.houseTakings(house) - week.houseShares(house) - week.houseRents(house);
            default: throw new NoSuchElementException("what");
        }
    }

    public int screen(int screen, int what) throws NoSuchElementException {
        checkScreen(screen);
        switch (what) {
            case 0: return chain.houseOf[screen];
            case 1: return chain.seats[screen];
            case 2: return chain.shows[screen];
            case 3: return state.rent[screen];
            case 4: return state.firstFilm[screen];
            case 5: return state.secondFilm[screen];
            case 6: return state.splitDay[screen];
            case 7: return state.held[screen];
            case 8: return week.screenTakings(screen);
            default: throw new NoSuchElementException("what");
        }
    }

    public int film(int film, int what) throws NoSuchElementException {
        checkFilm(film);
        switch (what) {
            case 0: return chain.demand[film];
            case 1: return chain.kept[film];
            case 2: return chain.guarantee[film];
            case 3: return chain.termCount[film];
            case 4: return state.ageOf(film);
            case 5: return state.dailyDemand[film];
            case 6: return week.filmTakings(film);
            case 7: return state.filmTakings[film];
            default: throw new NoSuchElementException("what");
        }
    }

    public int term(int film, int index) throws NoSuchElementException {
        checkFilm(film);
        if (index < 0 || index >= chain.termCount[film]) {
            throw new NoSuchElementException("term");
        }
        return chain.terms[film * MAX_TERMS + index];
    }

    public int prints(int film, int place) throws NoSuchElementException {
        checkFilm(film);
        checkPlace(place);
        return state.printsAt(film, place);
    }

    public int shown(int screen, int day) throws NoSuchElementException, IllegalArgumentException {
        checkScreen(screen);
        checkDay(day);
        return state.filmOn(screen, day);
    }

    public int visitors(int screen, int day) throws NoSuchElementException, IllegalArgumentException {
        checkScreen(screen);
        checkDay(day);
        return week.visitorsOn(screen, day);
    }

    public int share(int house, int film) throws NoSuchElementException {
        checkHouse(house);
        checkFilm(film);
        return week.shareIn(house, film);
    }

    public int run(int house, int film) throws NoSuchElementException {
        checkHouse(house);
        checkFilm(film);
        return state.runOf(house, film);
    }

    public boolean wouldHold(int screen) throws NoSuchElementException {
        checkScreen(screen);
        return week.fillsWell(screen);
    }

    public int forecast(int screen, int film) throws NoSuchElementException {
        checkScreen(screen);
        checkFilm(film);
        return week.expectedTakings(screen, film);
    }

    public int chart(int place) throws NoSuchElementException {
        if (place < 0 || place >= chain.films) {
            throw new NoSuchElementException("place");
        }
        return week.filmAtPlace(place);
    }

    public int bestGain(int house) throws NoSuchElementException {
        checkHouse(house);
        return programs.greatestGain(house);
    }

    public int bestFilm(int screen) throws NoSuchElementException {
        checkScreen(screen);
        programs.findBest(chain.houseOf[screen]);
        return programs.filmFor(screen);
    }

    public int bestMove() {
        return programs.findMove();
    }

    public int total(int what) throws NoSuchElementException {
        int[] totals = state.totals;
        if (what == AMOUNTS) {
            return totals[TAKINGS] - totals[SHARES] - totals[RENTS] - totals[FEES];
        }
        if (what < 0 || what > AMOUNTS) {
            throw new NoSuchElementException("what");
        }
        return totals[what];
    }

    public int closed(int back, int what) throws NoSuchElementException {
        if (back < 0 || back >= state.weeks || back >= KEPT_WEEKS) {
            throw new NoSuchElementException("back");
        }
        if (what < 0 || what >= LOG_ROW) {
            throw new NoSuchElementException("what");
        }
        return state.logged(state.weeks - 1 - back, what);
    }

    public double meanTakings() {
        if (state.weeks == 0) {
            return 0.0;
        }
        return (double) state.totals[TAKINGS] / (double) state.weeks;
    }

    public float filled() {
        int room = week.allRoom();
        if (room == 0) {
            return 0.0f;
        }
        return (float) week.allVisitors() / (float) room;
    }

    public int book(int screen, int film) throws NoSuchElementException {
        checkScreen(screen);
        checkFilm(film);
        return takeBooking(screen, film, NONE, 0);
    }

    public int split(int screen, int first, int second, int day)
            throws NoSuchElementException, IllegalArgumentException {
        checkScreen(screen);
        checkFilm(first);
        checkFilm(second);
        if (first == second || day < 1 || day >= DAYS) {
            throw new IllegalArgumentException("no split week");
        }
        return takeBooking(screen, first, second, day);
    }

    private int takeBooking(int screen, int first, int second, int day) {
        if (state.held[screen] != 0) {
            return REFUSED_FIRST;
        }
        if (!week.hasPrintsFor(screen, first, second, day)) {
            return REFUSED_SECOND;
        }
        history.record(state);
        state.setBooking(screen, first, second, day);
        week.refresh();
        return week.screenTakings(screen);
    }

    public int empty(int screen) throws NoSuchElementException {
        checkScreen(screen);
        if (state.held[screen] != 0) {
            return REFUSED_FIRST;
        }
        history.record(state);
        int before = state.firstFilm[screen];
        state.setBooking(screen, NONE, NONE, 0);
        week.refresh();
        return before;
    }

    public int move(int film, int from, int to) throws NoSuchElementException, IllegalArgumentException {
        checkFilm(film);
        checkPlace(from);
        checkPlace(to);
        if (from == to) {
            throw new IllegalArgumentException("same place");
        }
        int there = state.printsAt(film, from);
        if (there == 0) {
            return REFUSED_FIRST;
        }
        if (there <= week.printsNeeded(film, from)) {
            return REFUSED_SECOND;
        }
        if (state.printsAt(film, to) >= MAX_PRINTS) {
            return REFUSED_THIRD;
        }
        history.record(state);
        state.addPrints(film, from, -1);
        state.addPrints(film, to, 1);
        state.moves++;
        return state.printsAt(film, to);
    }

    public int close() {
        if (state.weeks >= MAX_WEEKS) {
            return REFUSED_FIRST;
        }
        history.record(state);
        int takings = closing.closeWeek();
        week.refresh();
        return takings;
    }

    public int program(int house) throws NoSuchElementException {
        checkHouse(house);
        history.record(state);
        programs.findBest(house);
        int changed = programs.bookFound();
        week.refresh();
        return changed;
    }

    public int setHoldover(int house, int percentage) throws NoSuchElementException, IllegalArgumentException {
        checkHouse(house);
        if (percentage < 1 || percentage > MAX_PERCENTAGE) {
            throw new IllegalArgumentException("percentage");
        }
        history.record(state);
        int before = state.holdover[house];
        state.holdover[house] = percentage;
        return before;
    }

    public int setRent(int screen, int rent) throws NoSuchElementException, IllegalArgumentException {
        checkScreen(screen);
        if (rent < 0 || rent > MAX_RENT) {
            throw new IllegalArgumentException("rent");
        }
        history.record(state);
        int before = state.rent[screen];
        state.rent[screen] = rent;
        return before;
    }

    public int setFee(int fee) throws IllegalArgumentException {
        if (fee < 0 || fee > MAX_FEE) {
            throw new IllegalArgumentException("fee");
        }
        history.record(state);
        int before = state.fee;
        state.fee = fee;
        return before;
    }

    public int format(int screen) throws NoSuchElementException {
        checkScreen(screen);
        formatted.setLength(0);
        formatted.append('s');
        formatted.append(screen);
        formatted.append(':');
        for (int day = 0; day < DAYS; day++) {
            formatted.append(' ');
            appendFilm(state.filmOn(screen, day));
        }
        if (state.held[screen] != 0) {
            formatted.append(" held");
        }
        return formatted.length();
    }

    private void appendFilm(int film) {
        if (film == NONE) {
            formatted.append('-');
        } else {
            formatted.append(film);
        }
    }

    public int formattedByte(int index) {
        if (index < 0 || index >= formatted.length()) {
            return NONE;
        }
        return formatted.charAt(index);
    }

    public int undoCount() {
        return history.count;
    }

    public int undo() {
        if (history.count == 0) {
            return NONE;
        }
        history.takeBack(state);
        week.refresh();
        return history.count;
    }

    public void saveSnapshot() {
        history.snapshot.copyFrom(state);
        history.hasSnapshot = true;
    }

    public boolean restoreSnapshot() {
        if (!history.hasSnapshot) {
            return false;
        }
        state.copyFrom(history.snapshot);
        history.count = 0;
        week.refresh();
        return true;
    }

    private void checkHouse(int house) {
        if (house < 0 || house >= chain.houses) {
            throw new NoSuchElementException("house");
        }
    }

    private void checkScreen(int screen) {
        if (screen < 0 || screen >= chain.screens) {
            throw new NoSuchElementException("screen");
        }
    }

    private void checkFilm(int film) {
        if (film < 0 || film >= chain.films) {
            throw new NoSuchElementException("film");
        }
    }

    private void checkPlace(int place) {
        if (place < NONE || place >= chain.houses) {
            throw new NoSuchElementException("place");
        }
    }

    private void checkDay(int day) {
        if (day < 0 || day >= DAYS) {
            throw new IllegalArgumentException("day");
        }
    }

    /** What a text tells once and no operation changes. */
    private static final class Chain {
        int houses;
        final int[] price = new int[MAX_HOUSES];
        final int[] screensIn = new int[MAX_HOUSES];
        int screens;
        final int[] houseOf = new int[MAX_SCREENS];
        final int[] seats = new int[MAX_SCREENS];
        final int[] shows = new int[MAX_SCREENS];
        int films;
        final int[] demand = new int[MAX_FILMS];
        final int[] kept = new int[MAX_FILMS];
        final int[] guarantee = new int[MAX_FILMS];
        final int[] termCount = new int[MAX_FILMS];
        final int[] terms = new int[MAX_FILMS * MAX_TERMS];

        void clear() {
            houses = 0;
            screens = 0;
            films = 0;
        }

        void copyFrom(Chain other) {
            houses = other.houses;
            copyRow(other.price, price);
            copyRow(other.screensIn, screensIn);
            screens = other.screens;
            copyRow(other.houseOf, houseOf);
            copyRow(other.seats, seats);
            copyRow(other.shows, shows);
            films = other.films;
            copyRow(other.demand, demand);
            copyRow(other.kept, kept);
            copyRow(other.guarantee, guarantee);
            copyRow(other.termCount, termCount);
            copyRow(other.terms, terms);
        }

        int capacityOf(int screen) {
            return seats[screen] * shows[screen];
        }

        int priceAt(int screen) {
            return price[houseOf[screen]];
        }
    }

    private static void copyRow(int[] from, int[] to) {
        System.arraycopy(from, 0, to, 0, Math.min(from.length, to.length));
    }

    /** Everything that operations change, and so what undoing and snapshots restore. */
    private static final class State {
        int weeks;
        int moves;
        int fee;
        final int[] holdover = new int[MAX_HOUSES];
        final int[] rent = new int[MAX_SCREENS];
        final int[] prints = new int[MAX_FILMS * PLACES];
        final int[] firstFilm = new int[MAX_SCREENS];
        final int[] secondFilm = new int[MAX_SCREENS];
        final int[] splitDay = new int[MAX_SCREENS];
        final int[] held = new int[MAX_SCREENS];
        final int[] firstWeek = new int[MAX_FILMS];
        final int[] dailyDemand = new int[MAX_FILMS];
        final int[] filmTakings = new int[MAX_FILMS];
        final int[] runs = new int[MAX_HOUSES * MAX_FILMS];
        final int[] totals = new int[AMOUNTS];
        final int[] log = new int[KEPT_WEEKS * LOG_ROW];

        void clear() {
            weeks = 0;
            moves = 0;
            fee = 0;
            Arrays.fill(holdover, 0);
            Arrays.fill(rent, 0);
            Arrays.fill(prints, 0);
            Arrays.fill(firstFilm, NONE);
            Arrays.fill(secondFilm, NONE);
            Arrays.fill(splitDay, 0);
            Arrays.fill(held, 0);
            Arrays.fill(firstWeek, NONE);
            Arrays.fill(dailyDemand, 0);
            Arrays.fill(filmTakings, 0);
            Arrays.fill(runs, 0);
            Arrays.fill(totals, 0);
            Arrays.fill(log, 0);
        }

        void copyFrom(State other) {
            weeks = other.weeks;
            moves = other.moves;
            fee = other.fee;
            copyRow(other.holdover, holdover);
            copyRow(other.rent, rent);
            copyRow(other.prints, prints);
            copyRow(other.firstFilm, firstFilm);
            copyRow(other.secondFilm, secondFilm);
            copyRow(other.splitDay, splitDay);
            copyRow(other.held, held);
            copyRow(other.firstWeek, firstWeek);
            copyRow(other.dailyDemand, dailyDemand);
            copyRow(other.filmTakings, filmTakings);
            copyRow(other.runs, runs);
            copyRow(other.totals, totals);
            copyRow(other.log, log);
        }

        int filmOn(int screen, int day) {
            int change = splitDay[screen];
            return change == 0 || day < change ? firstFilm[screen] : secondFilm[screen];
        }

        void setBooking(int screen, int first, int second, int day) {
            firstFilm[screen] = first;
            secondFilm[screen] = second;
            splitDay[screen] = day;
        }

        boolean isBookedWhole(int screen, int film) {
            return firstFilm[screen] == film && splitDay[screen] == 0;
        }

        int printsAt(int film, int place) {
            return prints[film * PLACES + place + 1];
        }

        void addPrints(int film, int place, int count) {
            prints[film * PLACES + place + 1] += count;
        }

        int ageOf(int film) {
            return firstWeek[film] == NONE ? 0 : weeks - firstWeek[film];
        }

        int runOf(int house, int film) {
            return runs[house * MAX_FILMS + film];
        }

        int logged(int closedWeek, int what) {
            return log[closedWeek % KEPT_WEEKS * LOG_ROW + what];
        }

        void writeLog(int closedWeek, int what, int amount) {
            log[closedWeek % KEPT_WEEKS * LOG_ROW + what] = amount;
        }

        int countBooked(int screens) {
            int count = 0;
            for (int screen = 0; screen < screens; screen++) {
                if (firstFilm[screen] != NONE) {
                    count++;
                }
            }
            return count;
        }

        int countHeld(int screens) {
            int count = 0;
            for (int screen = 0; screen < screens; screen++) {
                count += held[screen];
            }
            return count;
        }
    }

    /** The visitors of the present week and what follows from them. */
    private static final class Week {
        private final Chain chain;
        private final State state;
        // Kept beside the state, because nearly every answer is a sum over this table.
        private final int[] table = new int[MAX_SCREENS * DAYS];
        private final int[] ranking = new int[MAX_FILMS];

        Week(Chain chain, State state) {
            this.chain = chain;
            this.state = state;
        }

        void refresh() {
            for (int screen = 0; screen < chain.screens; screen++) {
                for (int day = 0; day < DAYS; day++) {
                    int film = state.filmOn(screen, day);
                    boolean open = film >= 0 && film < chain.films;
                    table[screen * DAYS + day] = open ? expectedVisitors(screen, film, day) : 0;
                }
            }
        }

        private int expectedVisitors(int screen, int film, int day) {
            int left = state.dailyDemand[film];
            for (int other = 0; other < chain.screens; other++) {
                if (isServedBefore(other, screen) && state.filmOn(other, day) == film) {
                    left -= chain.capacityOf(other);
                }
            }
            return Math.max(0, Math.min(left, chain.capacityOf(screen)));
        }

        private boolean isServedBefore(int other, int screen) {
            if (other == screen || chain.houseOf[other] != chain.houseOf[screen]) {
                return false;
            }
            int ahead = chain.capacityOf(other) - chain.capacityOf(screen);
            return ahead > 0 || ahead == 0 && other < screen;
        }

        int expectedTakings(int screen, int film) {
            int sum = 0;
            for (int day = 0; day < DAYS; day++) {
                sum += expectedVisitors(screen, film, day);
            }
            return sum * chain.priceAt(screen);
        }

        int visitorsOn(int screen, int day) {
            return table[screen * DAYS + day];
        }

        int visitorsSince(int screen, int firstDay) {
            int sum = 0;
            for (int day = firstDay; day < DAYS; day++) {
                sum += table[screen * DAYS + day];
            }
            return sum;
        }

        int screenTakings(int screen) {
            return visitorsSince(screen, 0) * chain.priceAt(screen);
        }

        int allTakings() {
            int sum = 0;
            for (int screen = 0; screen < chain.screens; screen++) {
                sum += screenTakings(screen);
            }
            return sum;
        }

        int allVisitors() {
            int sum = 0;
            for (int screen = 0; screen < chain.screens; screen++) {
                sum += visitorsSince(screen, 0);
            }
            return sum;
        }

        int allRoom() {
            int sum = 0;
            for (int screen = 0; screen < chain.screens; screen++) {
                sum += chain.capacityOf(screen) * DAYS;
            }
            return sum;
        }

        int houseTakings(int house) {
            int sum = 0;
            for (int screen = 0; screen < chain.screens; screen++) {
                if (chain.houseOf[screen] == house) {
                    sum += screenTakings(screen);
                }
            }
            return sum;
        }

        int houseRents(int house) {
            int sum = 0;
            for (int screen = 0; screen < chain.screens; screen++) {
                if (chain.houseOf[screen] == house) {
                    sum += state.rent[screen];
                }
            }
            return sum;
        }

        int filmTakingsIn(int house, int film) {
            int visitors = 0;
            for (int screen = 0; screen < chain.screens; screen++) {
                if (chain.houseOf[screen] == house) {
                    visitors += filmVisitorsOn(screen, film);
                }
            }
            return visitors * chain.price[house];
        }

        private int filmVisitorsOn(int screen, int film) {
            int sum = 0;
            for (int day = 0; day < DAYS; day++) {
                if (state.filmOn(screen, day) == film) {
                    sum += visitorsOn(screen, day);
                }
            }
            return sum;
        }

        int filmTakings(int film) {
            int sum = 0;
            for (int house = 0; house < chain.houses; house++) {
                sum += filmTakingsIn(house, film);
            }
            return sum;
        }

        int shareOf(int house, int film, int takings) {
            int index = Math.min(state.runOf(house, film), chain.termCount[film] - 1);
            int term = chain.terms[film * MAX_TERMS + Math.max(0, index)];
            return Math.max(takings * term / 100, Math.min(chain.guarantee[film], takings));
        }

        int shareIn(int house, int film) {
            return shareOf(house, film, filmTakingsIn(house, film));
        }

        int houseShares(int house) {
            int sum = 0;
            for (int film = 0; film < chain.films; film++) {
                sum += shareIn(house, film);
            }
            return sum;
        }

        boolean fillsWell(int screen) {
            if (state.filmOn(screen, DAYS - 1) == NONE) {
                return false;
            }
            int firstDay = state.splitDay[screen];
            int price = chain.priceAt(screen);
            int takings = visitorsSince(screen, firstDay) * price;
            int greatest = chain.capacityOf(screen) * price * (DAYS - firstDay);
            return takings * 100 >= state.holdover[chain.houseOf[screen]] * greatest;
        }

        private int screensShowing(int house, int film, int day) {
            int count = 0;
            for (int screen = 0; screen < chain.screens; screen++) {
                if (chain.houseOf[screen] == house && state.filmOn(screen, day) == film) {
                    count++;
                }
            }
            return count;
        }

        int printsNeeded(int film, int place) {
            int most = 0;
            if (place != NONE) {
                for (int day = 0; day < DAYS; day++) {
                    most = Math.max(most, screensShowing(place, film, day));
                }
            }
            return most;
        }

        boolean hasPrintsFor(int screen, int first, int second, int splitDay) {
            int house = chain.houseOf[screen];
            for (int day = 0; day < DAYS; day++) {
                int film = splitDay == 0 || day < splitDay ? first : second;
                int needed = screensShowing(house, film, day);
                // The screen's own present booking gives its print back.
                if (state.filmOn(screen, day) != film) {
                    needed++;
                }
                if (needed > state.printsAt(film, house)) {
                    return false;
                }
            }
            return true;
        }

        boolean isShownIn(int house, int film) {
            return printsNeeded(film, house) > 0;
        }

        int filmAtPlace(int place) {
            for (int film = 0; film < chain.films; film++) {
                ranking[film] = state.filmTakings[film] + filmTakings(film);
            }
            for (int film = 0; film < chain.films; film++) {
                if (filmsAhead(film) == place) {
                    return film;
                }
            }
            return NONE;
        }

        private int filmsAhead(int film) {
            int count = 0;
            for (int other = 0; other < chain.films; other++) {
                int ahead = ranking[other] - ranking[film];
                if (ahead > 0 || ahead == 0 && other < film) {
                    count++;
                }
            }
            return count;
        }
    }

    /** Closes a week: books its amounts, ages the films and holds screens over. */
    private static final class Closing {
        private final Chain chain;
        private final State state;
        private final Week week;
        private final int[] heldFilm = new int[MAX_SCREENS];

        Closing(Chain chain, State state, Week week) {
            this.chain = chain;
            this.state = state;
            this.week = week;
        }

        int closeWeek() {
            int takings = week.allTakings();
            addAmounts(takings);
            addFilmTakings();
            addRuns();
            holdScreens();
            state.writeLog(state.weeks, HELD_BEHIND, state.countHeld(chain.screens));
            state.moves = 0;
            state.weeks++;
            ageFilms();
            return takings;
        }

        private void addAmounts(int takings) {
            int shares = 0;
            int rents = 0;
            for (int house = 0; house < chain.houses; house++) {
                shares += week.houseShares(house);
                rents += week.houseRents(house);
            }
            addAmount(TAKINGS, takings);
            addAmount(SHARES, shares);
            addAmount(RENTS, rents);
            addAmount(FEES, state.moves * state.fee);
        }

        private void addAmount(int what, int amount) {
            state.totals[what] += amount;
            state.writeLog(state.weeks, what, amount);
        }

        private void addFilmTakings() {
            for (int film = 0; film < chain.films; film++) {
                state.filmTakings[film] += week.filmTakings(film);
            }
        }

        private void addRuns() {
            for (int house = 0; house < chain.houses; house++) {
                for (int film = 0; film < chain.films; film++) {
                    if (week.isShownIn(house, film)) {
                        addRun(house, film);
                    }
                }
            }
        }

        private void addRun(int house, int film) {
            state.runs[house * MAX_FILMS + film]++;
            if (state.firstWeek[film] == NONE) {
                state.firstWeek[film] = state.weeks;
            }
        }

        private void holdScreens() {
            // All are judged before the first booking changes.
            for (int screen = 0; screen < chain.screens; screen++) {
                heldFilm[screen] = week.fillsWell(screen) ? state.filmOn(screen, DAYS - 1) : NONE;
            }
            for (int screen = 0; screen < chain.screens; screen++) {
                state.setBooking(screen, heldFilm[screen], NONE, 0);
                state.held[screen] = heldFilm[screen] == NONE ? 0 : 1;
            }
        }

        private void ageFilms() {
            // A week adds one to the age of each film shown so far: one more step of its demand.
            for (int film = 0; film < chain.films; film++) {
                if (state.firstWeek[film] != NONE) {
                    state.dailyDemand[film] = state.dailyDemand[film] * chain.kept[film] / 100;
                }
            }
        }
    }

    /**
     * Finds best programs. In a program every booking is for the whole week, so a film's takings
     * depend only on the set of screens that show it: the films are spread over sets of screens.
     */
    private static final class Programs {
        private static final int OPEN = -2;
        private static final int IMPOSSIBLE = -1;
        private static final int SETS = 1 << MAX_SCREENS_IN_HOUSE;
        private static final int NO_MOVE = -1000000000;

        private final Chain chain;
        private final State state;
        private final Week week;
        private int house;
        private int count;
        private final int[] screens = new int[MAX_SCREENS_IN_HOUSE];
        private final int[] choice = new int[MAX_SCREENS_IN_HOUSE];
        private final int[] limit = new int[MAX_FILMS];
        private final int[] room = new int[SETS];
        private final int[] filmGain = new int[SETS];
        private final int[] best = new int[SETS];
        private final int[] gainNow = new int[MAX_HOUSES];
        private final int[] oneLess = new int[PLACES];
        private final int[] oneMore = new int[PLACES];

        Programs(Chain chain, State state, Week week) {
            this.chain = chain;
            this.state = state;
            this.week = week;
        }

        int greatestGain(int house) {
            prepare(house);
            return search();
        }

        void findBest(int house) {
            int target = greatestGain(house);
            for (int place = 0; place < count; place++) {
                if (choice[place] == OPEN) {
                    settle(place, target);
                }
            }
        }

        /** Ties are broken here: the least choice that still lets the others reach the target. */
        private void settle(int place, int target) {
            for (int film = NONE; film < chain.films; film++) {
                choice[place] = film;
                if (search() == target) {
                    return;
                }
            }
        }

        int filmFor(int screen) {
            for (int place = 0; place < count; place++) {
                if (screens[place] == screen) {
                    return choice[place];
                }
            }
            return NONE;
        }

        int bookFound() {
            int changed = 0;
            for (int place = 0; place < count; place++) {
                if (!state.isBookedWhole(screens[place], choice[place])) {
                    state.setBooking(screens[place], choice[place], NONE, 0);
                    changed++;
                }
            }
            return changed;
        }

        private void prepare(int house) {
            this.house = house;
            count = 0;
            for (int screen = 0; screen < chain.screens; screen++) {
                if (chain.houseOf[screen] == house && count < MAX_SCREENS_IN_HOUSE) {
                    screens[count] = screen;
                    choice[count] = state.held[screen] != 0 ? state.firstFilm[screen] : OPEN;
                    addRoom(1 << count, chain.capacityOf(screen));
                    count++;
                }
            }
            for (int film = 0; film < chain.films; film++) {
                limit[film] = state.printsAt(film, house);
            }
        }

        private void addRoom(int ownSet, int capacity) {
            for (int set = 0; set < ownSet; set++) {
                room[ownSet + set] = room[set] + capacity;
            }
        }

        /** The greatest gain with the choices made so far, or IMPOSSIBLE. */
        private int search() {
            int open = placesWith(OPEN);
            Arrays.fill(best, IMPOSSIBLE);
            best[0] = 0;
            for (int film = 0; film < chain.films; film++) {
                findFilmGains(film, open);
                addFilm(open);
            }
            int greatest = IMPOSSIBLE;
            for (int set = 0; set < SETS; set++) {
                greatest = Math.max(greatest, best[set]);
            }
            return greatest;
        }

        private int placesWith(int film) {
            int set = 0;
            for (int place = 0; place < count; place++) {
                if (choice[place] == film) {
                    set |= 1 << place;
                }
            }
            return set;
        }

        private void findFilmGains(int film, int open) {
            int chosen = placesWith(film);
            int weekDemand = state.dailyDemand[film] * DAYS;
            for (int set = 0; set <= open; set++) {
                if ((set & ~open) == 0) {
                    int shown = chosen | set;
                    int takings = Math.min(weekDemand, room[shown] * DAYS) * chain.price[house];
                    boolean enough = Integer.bitCount(shown) <= limit[film];
                    filmGain[set] = enough ? takings - week.shareOf(house, film, takings) : IMPOSSIBLE;
                }
            }
        }

        private void addFilm(int open) {
            // Downwards, so that the smaller sets still stand for the films before.
            for (int set = open; set >= 0; set--) {
                if ((set & ~open) == 0) {
                    best[set] = bestParting(set);
                }
            }
        }

        private int bestParting(int set) {
            int greatest = IMPOSSIBLE;
            for (int part = 0; part <= set; part++) {
                if ((part & ~set) == 0 && filmGain[part] >= 0 && best[set ^ part] >= 0) {
                    greatest = Math.max(greatest, filmGain[part] + best[set ^ part]);
                }
            }
            return greatest;
        }

        int findMove() {
            for (int house = 0; house < chain.houses; house++) {
                gainNow[house] = greatestGain(house);
            }
            int greatest = 0;
            int found = NONE;
            for (int film = 0; film < chain.films; film++) {
                weighPlaces(film);
                for (int pair = 0; pair < PLACES * PLACES; pair++) {
                    int from = pair / PLACES;
                    int to = pair % PLACES;
                    if (from != to && oneLess[from] + oneMore[to] > greatest) {
                        greatest = oneLess[from] + oneMore[to];
                        found = 100 * film + 10 * from + to;
                    }
                }
            }
            return found;
        }

        /** What one print less or more means to each place, the depot first. */
        private void weighPlaces(int film) {
            Arrays.fill(oneLess, NO_MOVE);
            Arrays.fill(oneMore, NO_MOVE);
            for (int place = NONE; place < chain.houses; place++) {
                int there = state.printsAt(film, place);
                if (there > heldScreens(film, place)) {
                    oneLess[place + 1] = gainChange(place, film, -1);
                }
                if (there < MAX_PRINTS) {
                    oneMore[place + 1] = gainChange(place, film, 1);
                }
            }
        }

        private int heldScreens(int film, int place) {
            int held = 0;
            for (int screen = 0; screen < chain.screens; screen++) {
                if (chain.houseOf[screen] == place && state.held[screen] != 0 && state.firstFilm[screen] == film) {
                    held++;
                }
            }
            return held;
        }

        private int gainChange(int place, int film, int prints) {
            if (place == NONE) {
                return 0;
            }
            prepare(place);
            limit[film] += prints;
            return search() - gainNow[place];
        }
    }

    /** The last states for undo, and the snapshot. */
    private static final class History {
        private final State[] slots = new State[MAX_UNDOS];
        private int next;
        int count;
        final State snapshot = new State();
        boolean hasSnapshot;

        History() {
            for (int slot = 0; slot < MAX_UNDOS; slot++) {
                slots[slot] = new State();
            }
        }

        void record(State present) {
            slots[next].copyFrom(present);
            next = (next + 1) % MAX_UNDOS;
            count = Math.min(count + 1, MAX_UNDOS);
        }

        void takeBack(State present) {
            next = (next + MAX_UNDOS - 1) % MAX_UNDOS;
            present.copyFrom(slots[next]);
            count--;
        }

        void discardAll() {
            count = 0;
            hasSnapshot = false;
        }
    }

    /** Cuts a text into tokens and keeps its first error; after an error only the end is seen. */
    private static final class Tokens {
        static final int END = 0;
        static final int WORD = 1;
        static final int NUMBER = 2;
        static final int SIGN = 3;
        // Above every allowed number, and far below where a further digit would wrap around.
        private static final int VERY_GREAT = 1000000;

        private final byte[] text;
        private int length;
        private int next;
        private int start;
        int kind;
        int value;
        int error;
        int errorAt;

        Tokens(byte[] text) {
            this.text = text;
        }

        void begin(int textLength) {
            length = Math.min(textLength, text.length);
            next = 0;
            error = 0;
            errorAt = NONE;
            advance();
        }

        boolean failed() {
            return error != 0;
        }

        void fail(int code) {
            if (error == 0) {
                error = code;
                errorAt = start;
            }
            kind = END;
        }

        void advance() {
            while (next < length && (text[next] == ' ' || text[next] == '\n')) {
                next++;
            }
            start = next;
            value = 0;
            while (next < length && text[next] >= 'a' && text[next] <= 'z') {
                next++;
                kind = WORD;
            }
            if (next > start) {
                return;
            }
            while (next < length && text[next] >= '0' && text[next] <= '9') {
                value = value < VERY_GREAT ? value * 10 + text[next] - '0' : VERY_GREAT;
                next++;
                kind = NUMBER;
            }
            if (next > start) {
                return;
            }
            kind = END;
            if (next < length) {
                value = text[next];
                next++;
                kind = SIGN;
            }
        }

        boolean isWord(String word) {
            if (kind != WORD || next - start != word.length()) {
                return false;
            }
            for (int i = 0; i < word.length(); i++) {
                if (text[start + i] != word.charAt(i)) {
                    return false;
                }
            }
            return true;
        }

        boolean isSign(char sign) {
            return kind == SIGN && value == sign;
        }

        boolean takeWord(String word) {
            boolean found = isWord(word);
            if (found) {
                advance();
            }
            return found;
        }

        void takeSign(char sign) {
            if (isSign(sign)) {
                advance();
            } else {
                fail(NOT_ALLOWED);
            }
        }

        /** Answers the least number where there is an error, so that it may always be used. */
        int takeNumber(int least, int greatest) {
            if (kind != NUMBER) {
                fail(NOT_ALLOWED);
                return least;
            }
            if (value < least || value > greatest) {
                fail(OUT_OF_RANGE);
                return least;
            }
            int number = value;
            advance();
            return number;
        }
    }

    /** Reads a chain beside the present one, which must stay if the text has an error. */
    private static final class ChainText {
        private final Tokens tokens;
        final Chain chain = new Chain();
        final State state = new State();

        ChainText(Tokens tokens) {
            this.tokens = tokens;
        }

        void read(int length) {
            chain.clear();
            state.clear();
            tokens.begin(length);
            for (int clause = 0; clause < BUFFER_SIZE && tokens.kind != Tokens.END; clause++) {
                readClause();
            }
        }

        private void readClause() {
            if (tokens.isWord("house")) {
                readHouse();
            } else if (tokens.isWord("screen")) {
                readScreen();
            } else if (tokens.isWord("film")) {
                readFilm();
            } else if (tokens.takeWord("prints")) {
                readPrints();
            } else if (tokens.takeWord("fee")) {
                readFee();
            } else {
                tokens.fail(NOT_ALLOWED);
            }
        }

        private void readHouse() {
            int house = chain.houses;
            if (house >= MAX_HOUSES) {
                tokens.fail(TOO_MANY);
                return;
            }
            tokens.advance();
            chain.price[house] = tokens.takeNumber(1, MAX_PRICE);
            chain.screensIn[house] = 0;
            state.holdover[house] = tokens.takeNumber(1, MAX_PERCENTAGE);
            tokens.takeSign(';');
            chain.houses++;
        }

        private void readScreen() {
            int screen = chain.screens;
            if (screen >= MAX_SCREENS) {
                tokens.fail(TOO_MANY);
                return;
            }
            tokens.advance();
            refuseFullHouse();
            int house = tokens.takeNumber(0, chain.houses - 1);
            chain.houseOf[screen] = house;
            chain.seats[screen] = tokens.takeNumber(1, MAX_SEATS);
            chain.shows[screen] = tokens.takeNumber(1, MAX_SHOWS);
            state.rent[screen] = tokens.takeNumber(0, MAX_RENT);
            tokens.takeSign(';');
            chain.screensIn[house]++;
            chain.screens++;
        }

        private void refuseFullHouse() {
            if (tokens.kind == Tokens.NUMBER && tokens.value < chain.houses
                    && chain.screensIn[tokens.value] >= MAX_SCREENS_IN_HOUSE) {
                tokens.fail(HOUSE_FULL);
            }
        }

        private void readFilm() {
            int film = chain.films;
            if (film >= MAX_FILMS) {
                tokens.fail(TOO_MANY);
                return;
            }
            tokens.advance();
            chain.demand[film] = tokens.takeNumber(0, MAX_DEMAND);
            chain.kept[film] = tokens.takeNumber(0, MAX_PERCENTAGE);
            chain.guarantee[film] = tokens.takeNumber(0, MAX_GUARANTEE);
            readTerms(film);
            tokens.takeSign(';');
            state.dailyDemand[film] = chain.demand[film];
            chain.films++;
        }

        private void readTerms(int film) {
            chain.terms[film * MAX_TERMS] = tokens.takeNumber(0, MAX_TERM);
            int count = 1;
            while (count < MAX_TERMS && tokens.kind == Tokens.NUMBER) {
                chain.terms[film * MAX_TERMS + count] = tokens.takeNumber(0, MAX_TERM);
                count++;
            }
            chain.termCount[film] = count;
        }

        private void readPrints() {
            int film = tokens.takeNumber(0, chain.films - 1);
            int place = tokens.takeWord("depot") ? NONE : tokens.takeNumber(0, chain.houses - 1);
            int number = tokens.takeNumber(0, MAX_PRINTS);
            tokens.takeSign(';');
            state.addPrints(film, place, number - state.printsAt(film, place));
        }

        private void readFee() {
            state.fee = tokens.takeNumber(0, MAX_FEE);
            tokens.takeSign(';');
        }
    }

    private enum Property {
        SCREEN("screen"),
        HOUSE("house"),
        SEATS("seats"),
        CAPACITY("capacity"),
        RENT("rent"),
        BOOKED("booked"),
        HELD("held"),
        TAKINGS_NOW("takings"),
        VISITORS_NOW("visitors");

        final String word;

        Property(String word) {
            this.word = word;
        }
    }

    private static final Property[] PROPERTIES = Property.values();

    /**
     * Reads a query and evaluates it at once for all screens: each part answers the set of screens
     * for which it holds, a bit each.
     */
    private static final class QueryText {
        private final Tokens tokens;
        private final Chain chain;
        private final State state;
        private final Week week;

        QueryText(Tokens tokens, Chain chain, State state, Week week) {
            this.tokens = tokens;
            this.chain = chain;
            this.state = state;
            this.week = week;
        }

        int evaluate(int length) {
            tokens.begin(length);
            boolean many = tokens.takeWord("many");
            if (!many && !tokens.takeWord("first")) {
                tokens.fail(NOT_ALLOWED);
            }
            int found = readTest(0);
            if (tokens.kind != Tokens.END) {
                tokens.fail(NOT_ALLOWED);
            }
            return many ? Integer.bitCount(found) : leastIn(found);
        }

        private int leastIn(int set) {
            for (int screen = 0; screen < chain.screens; screen++) {
                if ((set >> screen & 1) != 0) {
                    return screen;
                }
            }
            return NONE;
        }

        private int readTest(int open) {
            int found = 0;
            int conjunction = readFactor(open);
            for (int more = 0; more < MAX_QUERY; more++) {
                if (tokens.takeWord("and")) {
                    conjunction &= readFactor(open);
                } else if (tokens.takeWord("or")) {
                    found |= conjunction;
                    conjunction = readFactor(open);
                } else {
                    return found | conjunction;
                }
            }
            return found | conjunction;
        }

        private int readFactor(int open) {
            boolean negated = tokens.isWord("not");
            if (!negated && !tokens.isSign('(')) {
                return readComparison();
            }
            if (open >= MAX_OPEN) {
                tokens.fail(TOO_MANY);
                return 0;
            }
            tokens.advance();
            if (negated) {
                return readFactor(open + 1) ^ allScreens();
            }
            int found = readTest(open + 1);
            tokens.takeSign(')');
            return found;
        }

        private int allScreens() {
            return (1 << chain.screens) - 1;
        }

        private int readComparison() {
            int left = readValue();
            int relation = readRelation();
            int right = readValue();
            int found = 0;
            for (int screen = 0; screen < chain.screens; screen++) {
                if (holds(relation, valueFor(left, screen), valueFor(right, screen))) {
                    found |= 1 << screen;
                }
            }
            return found;
        }

        private int readRelation() {
            if (!tokens.isSign('<') && !tokens.isSign('=') && !tokens.isSign('>')) {
                tokens.fail(NOT_ALLOWED);
                return 0;
            }
            int relation = tokens.value;
            tokens.advance();
            return relation;
        }

        private static boolean holds(int relation, int left, int right) {
            if (relation == '<') {
                return left < right;
            }
            return relation == '=' ? left == right : left > right;
        }

        /** A number as it is; the property at an index as -1 - index. */
        private int readValue() {
            if (tokens.kind == Tokens.NUMBER) {
                return tokens.takeNumber(0, MAX_QUERY_NUMBER);
            }
            for (int index = 0; index < PROPERTIES.length; index++) {
                if (tokens.isWord(PROPERTIES[index].word)) {
                    tokens.advance();
                    return -1 - index;
                }
            }
            tokens.fail(NOT_ALLOWED);
            return 0;
        }

        private int valueFor(int value, int screen) {
            int index = -1 - value;
            if (index < 0 || index >= PROPERTIES.length) {
                return value;
            }
            switch (PROPERTIES[index]) {
                case SCREEN: return screen;
                case HOUSE: return chain.houseOf[screen];
                case SEATS: return chain.seats[screen];
                case CAPACITY: return chain.capacityOf(screen);
                case RENT: return state.rent[screen];
                case BOOKED: return bookedAs(screen);
                case HELD: return state.held[screen];
                case TAKINGS_NOW: return week.screenTakings(screen);
                default: return week.visitorsSince(screen, 0);
            }
        }

        private int bookedAs(int screen) {
            if (state.firstFilm[screen] == NONE) {
                return 0;
            }
            return state.splitDay[screen] == 0 ? 1 : 2;
        }
    }
}

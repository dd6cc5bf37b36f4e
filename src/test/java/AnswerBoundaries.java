/** Boundary cases of promises 1 to 24, 34, 35 and 40: the buffer and the answers, sentence by sentence. */
final class AnswerBoundaries {
    private static final int NONE = CinemaChain.NONE;
    private static final String NO_HOUSE = "Throws `NoSuchElementException` if there is no such house";
    private static final String NO_SCREEN = "Throws `NoSuchElementException` if there is no such screen";
    private static final String NO_FILM = "Throws `NoSuchElementException` if there is no such film";
    private static final String NO_WHAT = "Throws `NoSuchElementException` if what is out of range";
    private static final String NO_DAY = "Throws `IllegalArgumentException` if day is not 0 to 6";

    private AnswerBoundaries() {
    }

    static void all() {
        promise1();
        promise2();
        promise3();
        promise3Lengths();
        promise4();
        promise5();
        promise6();
        promise7();
        promise8();
        promises9And10();
        promises11And12();
        promises13To16();
        promise17();
        promises18And19();
        promise20();
        promise20Ties();
        promise21();
        promise22();
        promise22Kept();
        promises23And24();
        promise34();
        promise35();
        promise40();
        promise40Lengths();
    }

    private static void promise1() {
        Doc.says(1, "Creates a chain without houses, screens and films, as by an empty text.");
        CinemaChain x = new CinemaChain();
        Check.noSuch("house 0", () -> x.house(0, 0));
        Check.noSuch("screen 0", () -> x.screen(0, 0));
        Check.noSuch("film 0", () -> x.film(0, 0));
        Check.noSuch("place 0 of the chart", () -> x.chart(0));
        Check.noSuch("a closed week", () -> x.closed(0, 0));
        Check.no("a snapshot", x.restoreSnapshot());
        Check.sameText("as by an empty text", Answers.andHistoryOf(x), Answers.andHistoryOf(Check.loaded("")));
        Check.same("close", x.close(), 0);
        Check.same("setFee", x.setFee(3), 0);
        Check.same("the operations are recorded", x.undoCount(), 2);
    }

    private static void promise2() {
        CinemaChain x = new CinemaChain();
        Doc.says(2, "Appends 20 bytes to the buffer: the four bytes of each parameter, the most significant byte first.");
        // "hous" "e 12" " 34;" "fee " "567;"
        x.feed(0x686f7573, 0x65203132, 0x2033343b, 0x66656520, 0x3536373b);
        Check.same("load(20)", x.load(20), 0);
        Check.same("price", x.house(0, 0), 12);
        Check.same("percentage", x.house(0, 1), 34);
        Check.same("fee", x.size(4), 567);
        x.feed(0x20202020, 0x20202020, 0x20202020, 0x20202020, 0x202020ff);
        Check.same("a byte of 255", x.load(20), -11);
        Check.same("it is the last one", x.errorPosition(), 19);
        x.feed(0x80000000, 0, 0, 0, 0);
        Check.same("a byte of 128", x.load(20), -11);
        Check.same("it is the first one", x.errorPosition(), 0);
        Doc.says(2, "Returns the number of bytes in the buffer;");
        for (int bytes = 20; bytes <= 700; bytes += 20) {
            Check.same("feed", x.feed(-1, -1, -1, -1, -1), bytes);
        }
        Doc.says(2, "NONE if it would exceed 700, and then nothing is appended.");
        Check.same("feed into a full buffer", x.feed(0, 0, 0, 0, 0), NONE);
        Check.same("feed once more", x.feed(0, 0, 0, 0, 0), NONE);
        Check.illegal("701 bytes", () -> x.load(701));
        Check.illegal("720 bytes", () -> x.load(720));
        Check.same("700 bytes, the first ones", x.load(700), -11);
        Check.same("the full buffer is empty then", x.feed(0, 0, 0, 0, 0), 20);
    }

    private static void promise3() {
        CinemaChain x = Texts.bookedHouses();
        x.close();
        x.move(0, NONE, 1);
        x.saveSnapshot();
        Doc.says(3, "-10 minus the error code if the text has an error (then only the buffer and the error position change).");
        String before = Answers.of(x);
        int undos = x.undoCount();
        Check.same("code 1", Check.load(x, "house 5 5;fee 3;x"), -11);
        Check.same("code 2", Check.load(x, "house 5 5;fee 3;house 0"), -12);
        Check.same("code 3", Check.load(x, "house 5 5;".repeat(4) + "house"), -13);
        Check.same("code 4", Check.load(x, "house 5 5;" + "screen 0 1 1 1;".repeat(4) + "screen 0"), -14);
        Check.sameText("nothing changes", Answers.of(x), before);
        Check.same("the undo history stays", x.undoCount(), undos);
        Check.yes("the snapshot stays", x.restoreSnapshot());
        Doc.says(3, "Reads the first bytes of the buffer as a text, which replaces everything (no week is closed, all screens "
                + "are empty);");
        x.setFee(9);
        Check.load(x, "house 5 6;screen 0 7 1 8;screen 0 1 1 9;film 3 50 2 1;");
        int[] sizes = {1, 2, 1, 0, 0, 0, 0, 0};
        for (int what = 0; what < sizes.length; what++) {
            Check.same("size(" + what + ")", x.size(what), sizes[what]);
        }
        Check.same("the totals", x.total(2), 0);
        Check.same("the age", x.film(0, 4), 0);
        Check.same("the daily demand", x.film(0, 5), 3);
        Check.same("the closed takings", x.film(0, 7), 0);
        Check.same("the run", x.run(0, 0), 0);
        Check.same("the prints", x.prints(0, 0), 0);
        Check.same("the prints in the depot", x.prints(0, NONE), 0);
        Check.same("an empty screen", x.shown(1, 0), NONE);
        Check.same("without visitors", x.visitors(1, 0), 0);
        Check.same("the first screen, too", x.screen(0, 8), 0);
        Check.noSuch("no closed week", () -> x.closed(0, 0));
        Doc.says(3, "the undo history and the snapshot are discarded.");
        Check.same("nothing to undo", x.undoCount(), 0);
        Check.same("undo", x.undo(), NONE);
        Check.no("no snapshot", x.restoreSnapshot());
    }

    private static void promise3Lengths() {
        CinemaChain x = new CinemaChain();
        Doc.says(3, "Returns the number of screens;");
        Check.same("no byte of an empty buffer", x.load(0), 0);
        Check.same("two screens", Check.load(x, "house 5 5;screen 0 1 1 1;screen 0 1 1 1;"), 2);
        Doc.says(3, "Throws `IllegalArgumentException` if length is negative or greater than the number of bytes in the buffer "
                + "(nothing changes)");
        Check.illegal("load(1) of an empty buffer", () -> x.load(1));
        Check.load(x, "  x");
        Check.feed(x, "house 1 1;house 2 2;");
        x.setFee(5);
        int[] wrong = {-1, 21, Integer.MIN_VALUE, Integer.MAX_VALUE};
        for (int length : wrong) {
            Check.illegal("load(" + length + ")", () -> x.load(length));
        }
        Check.same("the fee stays", x.size(4), 5);
        Check.same("the error position stays", x.errorPosition(), 2);
        Check.same("the undo history stays", x.undoCount(), 1);
        Check.same("the bytes stay", x.load(20), 0);
        Check.same("all of them were read", x.size(0), 2);
        Doc.says(3, "The buffer is empty afterwards, also after an error.");
        Check.illegal("behind a good text", () -> x.load(1));
        Check.feed(x, "house 1 1;house 2 2;");
        Check.same("the first ten bytes", x.load(10), 0);
        Check.same("one house", x.size(0), 1);
        Check.illegal("behind a part of the buffer", () -> x.load(1));
        Check.feed(x, "house 1 1;house 2 2;");
        Check.same("an error", x.load(9), -11);
        Check.illegal("behind an error", () -> x.load(1));
        Check.feed(x, "house 1 1;");
        Check.same("the empty text", x.load(0), 0);
        Check.illegal("behind no byte at all", () -> x.load(1));
        Check.same("it is filled from the beginning", x.feed(0, 0, 0, 0, 0), 20);
    }

    private static void promise4() {
        CinemaChain x = new CinemaChain();
        Doc.says(4, "NONE if that text had no error, or if there was no such call.");
        Check.same("no call", x.errorPosition(), NONE);
        Check.illegal("a call that reads nothing", () -> x.load(1));
        Check.same("no call that read the buffer", x.errorPosition(), NONE);
        Doc.says(4, "Returns the position of the first byte of the token with the error, for the most recent call of load or "
                + "query that read the buffer;");
        Check.load(x, "  what");
        Check.same("the first byte of the word", x.errorPosition(), 2);
        Check.load(x, "house 00000000100");
        Check.same("the first byte of the number", x.errorPosition(), 6);
        Check.illegal("load(1)", () -> x.load(1));
        Check.illegal("query(201)", () -> x.query(201));
        Check.same("calls that throw read nothing", x.errorPosition(), 6);
        Check.query(x, "many 1=1  or");
        Check.same("a query behind a text", x.errorPosition(), 12);
        x.saveSnapshot();
        x.setFee(1);
        x.undo();
        x.restoreSnapshot();
        Check.same("other calls leave it", x.errorPosition(), 12);
        Doc.says(4, "NONE if that text had no error, or if there was no such call.");
        Check.query(x, "many 1=1");
        Check.same("a query without an error", x.errorPosition(), NONE);
        Check.load(x, "what");
        Check.same("the first byte of all", x.errorPosition(), 0);
        x.load(0);
        Check.same("a text without an error", x.errorPosition(), NONE);
    }

    /** A week is closed; screen 0 is held, screen 1 has a split week, one print was moved. */
    private static CinemaChain secondWeek() {
        CinemaChain x = Texts.bookedHouses();
        x.move(0, NONE, 1);
        x.split(1, 1, 2, 3);
        x.empty(2);
        x.close();
        x.move(0, 1, NONE);
        x.split(1, 1, 2, 3);
        return x;
    }

    private static void promise5() {
        CinemaChain x = secondWeek();
        Doc.says(5, "0 houses, 1 screens, 2 films, 3 closed weeks, 4 the fee, 5 moves of prints in the present week, 6 screens "
                + "that are booked, 7 screens that are held");
        int[] due = {2, 4, 3, 1, 7, 1, 2, 1};
        for (int what = 0; what < due.length; what++) {
            Check.same("size(" + what + ")", x.size(what), due[what]);
        }
        Doc.says(5, NO_WHAT);
        Check.noSuchOutside("size", 0, 7, x::size);
    }

    private static void promise6() {
        CinemaChain x = secondWeek();
        Doc.says(6, "0 the price, 1 the holdover percentage, 2 its screens, 3 its takings in the present week, 4 the shares "
                + "there in the present week, 5 its net in the present week");
        // Film 0 takes 1750, film 1 720, film 2 360.
        int shares = 1750 * 40 / 100 + 360 + 360;
        int[] due = {10, 50, 3, 2830, shares, 2830 - shares - 150};
        for (int what = 0; what < due.length; what++) {
            Check.same("house(0, " + what + ")", x.house(0, what), due[what]);
        }
        Doc.says(6, NO_HOUSE + " or what is out of range");
        Check.noSuchOutside("house", 0, 1, n -> x.house(n, 0));
        Check.noSuchOutside("what of a house", 0, 5, n -> x.house(1, n));
    }

    private static void screenIs(CinemaChain x, int screen, int... due) {
        for (int what = 0; what < due.length; what++) {
            Check.same("screen(" + screen + ", " + what + ")", x.screen(screen, what), due[what]);
        }
    }

    private static void promise7() {
        CinemaChain x = secondWeek();
        Doc.says(7, "0 its house, 1 its seats, 2 its shows, 3 its rent, 4 its only or first film (NONE if it is empty), 5 its "
                + "second film (NONE without a split week), 6 the day from which it shows the second film (0 without a split "
                + "week), 7 1 if it is held, otherwise 0, 8 its takings in the present week");
        screenIs(x, 0, 0, 20, 2, 100, 0, NONE, 0, 1, 1750);
        screenIs(x, 1, 0, 10, 3, 50, 1, 2, 3, 0, 24 * 30 + 9 * 40);
        screenIs(x, 2, 0, 30, 1, 0, NONE, NONE, 0, 0, 0);
        screenIs(x, 3, 1, 50, 1, 7, NONE, NONE, 0, 0, 0);
        screenIs(Texts.twoHouses(), 1, 0, 10, 3, 50, NONE, NONE, 0, 0, 0);
        Doc.says(7, NO_SCREEN + " or what is out of range");
        Check.noSuchOutside("screen", 0, 3, n -> x.screen(n, 0));
        Check.noSuchOutside("what of a screen", 0, 8, n -> x.screen(3, n));
    }

    private static void promise8() {
        CinemaChain x = secondWeek();
        Doc.says(8, "0 its demand, 1 its kept percentage, 2 its guarantee, 3 the number of its terms, 4 its age, 5 its daily "
                + "demand, 6 its takings in the present week, 7 its takings in all closed weeks");
        int[] due = {50, 50, 100, 2, 1, 25, 1750, 2800};
        for (int what = 0; what < due.length; what++) {
            Check.same("film(0, " + what + ")", x.film(0, what), due[what]);
        }
        x.close();
        Check.same("takings in two closed weeks", x.film(0, 7), 2800 + 1750);
        Check.same("takings of split weeks", x.film(1, 7), 30 * 3 * 10 + 24 * 3 * 10);
        Doc.says(8, NO_FILM + " or what is out of range");
        Check.noSuchOutside("film", 0, 2, n -> x.film(n, 0));
        Check.noSuchOutside("what of a film", 0, 7, n -> x.film(2, n));
    }

    private static void promises9And10() {
        CinemaChain x = Check.loaded("house 1 1;house 1 1;film 1 1 1 9;film 1 1 1 8 7;film 1 1 1 6 5 4;film 1 1 1 3 2 1 0;"
                + "prints 3 depot 9;prints 3 1 8;");
        Doc.says(9, NO_FILM + " or term");
        for (int film = 0; film < 4; film++) {
            int one = film;
            Check.noSuchOutside("a term of film " + film, 0, film, n -> x.term(one, n));
        }
        Check.noSuchOutside("film", 0, 3, n -> x.term(n, 0));
        Doc.says(10, "Returns the number of prints of a film at a place (NONE for the depot).");
        Check.same("the depot", x.prints(3, NONE), 9);
        Check.same("a house without prints", x.prints(3, 0), 0);
        Check.same("the last house", x.prints(3, 1), 8);
        Doc.says(10, NO_FILM + " or place");
        Check.noSuchOutside("film", 0, 3, n -> x.prints(n, NONE));
        Check.noSuchOutside("place", NONE, 1, n -> x.prints(0, n));
    }

    private static void promises11And12() {
        CinemaChain x = Texts.bookedHouses();
        x.split(1, 2, 1, 6);
        x.empty(3);
        Doc.says(11, "Returns the film that a screen shows on a day;");
        Check.same("the first day", x.shown(1, 0), 2);
        Check.same("the last day of the first film", x.shown(1, 5), 2);
        Check.same("the day of the second film", x.shown(1, 6), 1);
        Doc.says(11, "NONE if it is empty.");
        Check.same("the first day", x.shown(3, 0), NONE);
        Check.same("the last day", x.shown(3, 6), NONE);
        Doc.says(11, NO_SCREEN + " (checked first)");
        Check.noSuchOutside("screen", 0, 3, n -> x.shown(n, 0));
        Check.noSuch("neither a screen nor a day", () -> x.shown(4, 7));
        Doc.says(11, NO_DAY);
        Check.illegalOutside("day", 0, 6, n -> x.shown(0, n));
        Check.illegalOutside("day of an empty screen", 0, 6, n -> x.shown(3, n));
        Doc.says(12, "Returns the visitors of a screen on a day.");
        Check.same("the first day", x.visitors(1, 0), 9);
        Check.same("the day of the second film", x.visitors(1, 6), 30);
        Check.same("none left for the other screen", x.visitors(2, 6), 0);
        Check.same("an empty screen", x.visitors(3, 0), 0);
        Doc.says(12, NO_SCREEN + " (checked first)");
        Check.noSuchOutside("screen", 0, 3, n -> x.visitors(n, 0));
        Check.noSuch("neither a screen nor a day", () -> x.visitors(-1, -1));
        Doc.says(12, NO_DAY);
        Check.illegalOutside("day", 0, 6, n -> x.visitors(0, n));
        Check.illegalOutside("day of an empty screen", 0, 6, n -> x.visitors(3, n));
    }

    private static void promises13To16() {
        CinemaChain x = Texts.bookedHouses();
        Doc.says(13, "Returns the share of a film in a house in the present week.");
        Check.same("share", x.share(0, 0), 1680);
        Doc.says(13, NO_HOUSE + " or film");
        Check.noSuchOutside("house", 0, 1, n -> x.share(n, 0));
        Check.noSuchOutside("film", 0, 2, n -> x.share(0, n));
        Doc.says(14, "Returns the run of a film in a house.");
        Check.same("run", x.run(0, 0), 0);
        x.close();
        Check.same("run", x.run(0, 0), 1);
        Check.same("the only week in the other house", x.run(1, 2), 1);
        x.undo();
        Doc.says(14, NO_HOUSE + " or film");
        Check.noSuchOutside("house", 0, 1, n -> x.run(n, 0));
        Check.noSuchOutside("film", 0, 2, n -> x.run(0, n));
        Doc.says(15, "Returns whether the film that a screen shows on day 6 would be held if the week was closed now (false if "
                + "it shows none).");
        Check.yes("30 of 30", x.wouldHold(1));
        Check.no("9 of 50", x.wouldHold(3));
        x.empty(3);
        x.setHoldover(1, 1);
        Check.no("an empty screen", x.wouldHold(3));
        Doc.says(15, NO_SCREEN);
        Check.noSuchOutside("screen", 0, 3, n -> x.wouldHold(n));
        Doc.says(16, "Returns the takings that a screen would have in the present week if it was booked with a film for the "
                + "whole week, all other screens as they are (holds and prints do not matter).");
        Check.same("its own film", x.forecast(0, 0), 2800);
        Check.same("no print in the house", x.forecast(3, 1), 30 * 7 * 4);
        Check.same("no print left in the house", x.forecast(1, 0), 10 * 7 * 10);
        x.split(1, 2, 1, 6);
        Check.same("beside a split week", x.forecast(2, 1), 30 * 6 * 10);
        x.close();
        Check.same("a held screen", x.forecast(0, 2), 9 * 7 * 10);
        Check.same("nothing changes", x.screen(0, 4), 0);
        Doc.says(16, NO_SCREEN + " or film");
        Check.noSuchOutside("screen", 0, 3, n -> x.forecast(n, 0));
        Check.noSuchOutside("film", 0, 2, n -> x.forecast(0, n));
    }

    private static void chartIs(CinemaChain x, int... due) {
        for (int place = 0; place < due.length; place++) {
            Check.same("chart(" + place + ")", x.chart(place), due[place]);
        }
    }

    private static void promise17() {
        Doc.says(17, "Returns the film at a place (from 0) of the chart: the films in the order of their takings in all closed "
                + "weeks and the present one together, the greatest first, the lowest number on a tie.");
        CinemaChain x = Check.loaded("house 1 100;screen 0 9 1 0;screen 0 9 1 0;film 1 100 0 0;film 2 100 0 0;film 1 100 0 0;"
                + "prints 0 0 1;prints 1 0 1;prints 2 0 1;");
        chartIs(x, 0, 1, 2);
        x.book(0, 2);
        chartIs(x, 2, 0, 1);
        x.book(1, 0);
        chartIs(x, 0, 2, 1);
        x.close();
        chartIs(x, 0, 2, 1);
        x.book(0, 1);
        chartIs(x, 1, 0, 2);
        x.split(0, 1, 2, 3);
        chartIs(x, 2, 0, 1);
        x.split(0, 1, 2, 4);
        // 8, 10 and 7: 7 + 3 of film 2 are one more than 4 * 2 of film 1.
        chartIs(x, 2, 1, 0);
        Doc.says(17, "Throws `NoSuchElementException` if there is no such place");
        Check.noSuchOutside("place", 0, 2, x::chart);
        CinemaChain y = Check.loaded("house 1 1;screen 0 1 1 1;");
        Check.noSuch("a chart without films", () -> y.chart(0));
    }

    private static void promises18And19() {
        CinemaChain x = Texts.twoHouses();
        Doc.says(18, "Returns the gain of the best program of a house.");
        Check.same("bestGain(0)", x.bestGain(0), 2170);
        Check.same("a guarantee that takes all", x.bestGain(1), 0);
        Check.same("without screens", Check.loaded("house 1 1;film 9 9 9 9;prints 0 0 9;").bestGain(0), 0);
        Check.same("without films", Check.loaded("house 1 1;screen 0 9 1 0;").bestGain(0), 0);
        Doc.says(18, NO_HOUSE);
        Check.noSuchOutside("house", 0, 1, x::bestGain);
        Doc.says(19, "Returns the film of a screen in the best program of its house;");
        Check.same("bestFilm(0)", x.bestFilm(0), 0);
        Check.same("bestFilm(2)", x.bestFilm(2), 1);
        Doc.says(19, "NONE if it is empty there.");
        Check.same("a screen between them", x.bestFilm(1), NONE);
        x.book(3, 2);
        Check.same("a screen that is booked now", x.bestFilm(3), NONE);
        Doc.says(19, NO_SCREEN);
        Check.noSuchOutside("screen", 0, 3, x::bestFilm);
        CinemaChain y = Check.loaded("house 1 1;");
        Check.noSuch("a house without screens", () -> y.bestFilm(0));
    }

    private static void promise20() {
        Doc.says(20, "Finds the best move of a print: the sum of the gains of the best programs of all houses is as great as "
                + "possible after moving one print of a film from a place to another place.");
        String houses = "house 1 50;house 2 50;house 3 50;house 4 50;screen 0 9 1 0;screen 1 9 1 0;screen 2 9 1 0;"
                + "screen 3 9 1 0;film 9 100 0 0;film 5 100 0 0;";
        Check.same("the dearest house", Check.loaded(houses + "prints 0 depot 1;").bestMove(), 4);
        Check.same("what is lost counts, too", Check.loaded(houses + "prints 0 2 1;").bestMove(), 34);
        Check.same("and what another film had", Check.loaded(houses + "prints 0 2 1;prints 1 3 1;").bestMove(), NONE);
        Check.same("another film fills the gap", Check.loaded(houses + "prints 0 0 1;prints 1 0 1;").bestMove(), 14);
        Check.same("one of four", Check.loaded(houses + "prints 0 depot 4;").bestMove(), 4);
        Check.same("one print alone: two in house 0 would gain more", Check.loaded("house 2 9;house 3 9;screen 0 9 1 0;"
                + "screen 0 9 1 0;screen 1 9 1 0;film 99 9 0 0;prints 0 depot 2;").bestMove(), 2);
        Doc.says(20, "the fee does not matter.");
        Check.same("the greatest fee", Check.loaded(houses + "prints 1 2 1;fee 999;").bestMove(), 134);
        Doc.says(20, "Returns 100 * film + 10 * (from + 1) + (to + 1), where the depot is -1;");
        Check.same("from house 2 to house 3", Check.loaded(houses + "prints 1 2 1;").bestMove(), 134);
        Check.same("from the depot to house 3", Check.loaded(houses + "prints 1 depot 1;").bestMove(), 104);
        Check.same("from the depot to house 0", Check.loaded("house 1 1;screen 0 9 1 0;film 9 9 0 0;prints 0 depot 1;")
                .bestMove(), 1);
        Doc.says(20, "Only moves that move would make if only the held screens were booked are considered;");
        CinemaChain x = Check.loaded("house 1 50;house 2 100;screen 0 9 1 0;screen 1 99 1 0;film 90 100 0 0;prints 0 0 1;");
        Check.same("an empty screen", x.bestMove(), 12);
        x.book(0, 0);
        Check.same("a booked screen", x.bestMove(), 12);
        x.close();
        Check.same("a held screen", x.bestMove(), NONE);
        Check.same("move refuses it, too", x.move(0, 0, 1), -3);
        CinemaChain y = Check.loaded("house 1 50;house 2 100;screen 0 9 1 0;screen 1 99 1 0;film 90 100 0 0;prints 0 0 2;");
        y.book(0, 0);
        y.close();
        Check.same("a second print beside a held one", y.bestMove(), 12);
        Check.same("no print at all", Check.loaded(houses).bestMove(), NONE);
        // Film 0 would gain, but has no print; film 1 has prints, but nine of them are there.
        Check.same("nine prints at the new place", Check.loaded("house 9 9;screen 0 9 1 0;film 9 9 0 0;film 1 9 0 0;"
                + "prints 1 0 9;prints 1 depot 1;").bestMove(), NONE);
    }

    private static void promise20Ties() {
        Doc.says(20, "the least such number on a tie;");
        String houses = "house 5 50;house 5 50;screen 1 9 1 0;screen 0 9 1 0;film 9 100 0 0;film 9 100 0 0;";
        Check.same("the lesser second place", Check.loaded(houses + "prints 0 depot 1;").bestMove(), 1);
        Check.same("the lesser first place", Check.loaded(houses + "prints 0 depot 1;prints 0 0 2;").bestMove(), 2);
        Check.same("the lesser film", Check.loaded(houses + "prints 0 depot 1;prints 1 depot 1;").bestMove(), 1);
        Check.same("the lesser film before the lesser places",
                Check.loaded(houses + "prints 0 0 2;prints 1 depot 1;").bestMove(), 12);
        Check.same("the only film with a print", Check.loaded(houses + "prints 1 depot 1;").bestMove(), 101);
        Doc.says(20, "NONE if no such move makes the sum greater than it is without a move.");
        Check.same("as great, but not greater", Check.loaded(houses + "prints 0 0 1;").bestMove(), NONE);
        Check.same("all screens are taken", Check.loaded(houses + "prints 0 0 1;prints 0 1 1;prints 0 depot 9;").bestMove(),
                NONE);
        Check.same("one greater", Check.loaded("house 1 1;house 1 1;screen 0 9 1 0;screen 1 9 1 0;film 1 9 6 0;"
                + "prints 0 depot 1;").bestMove(), 1);
        Check.same("none greater", Check.loaded("house 1 1;house 1 1;screen 0 9 1 0;screen 1 9 1 0;film 1 9 7 0;"
                + "prints 0 depot 1;").bestMove(), NONE);
        Check.same("without films", Check.loaded("house 1 1;house 1 1;screen 0 9 1 0;").bestMove(), NONE);
        Check.same("without houses", Check.loaded("film 1 1 1 1;prints 0 depot 9;").bestMove(), NONE);
    }

    private static void promise21() {
        Doc.says(21, "0 takings, 1 shares, 2 rents, 3 fees, 4 takings minus shares, rents and fees");
        CinemaChain x = Texts.bookedHouses();
        x.move(0, NONE, 1);
        int[] before = {0, 0, 0, 0, 0};
        int[] due = {5152, 2982, 157, 7, 5152 - 2982 - 157 - 7};
        for (int what = 0; what < 5; what++) {
            Check.same("total(" + what + ") without a closed week", x.total(what), before[what]);
        }
        x.close();
        for (int what = 0; what < 5; what++) {
            Check.same("total(" + what + ")", x.total(what), due[what]);
        }
        Doc.says(21, NO_WHAT);
        Check.noSuchOutside("total", 0, 4, x::total);
    }

    private static void promise22() {
        Doc.says(22, "0 for the most recent one");
        CinemaChain x = Texts.bookedHouses();
        x.move(0, NONE, 1);
        x.close();
        x.setHoldover(0, 100);
        x.close();
        Check.same("the takings of the second week", x.closed(0, 0), 3430);
        Check.same("the takings of the first week", x.closed(1, 0), 5152);
        Doc.says(22, "0 takings, 1 shares, 2 rents, 3 fees, 4 screens that were held behind it");
        int[][] due = {{3430, 700 + 840, 157, 0, 0}, {5152, 2982, 157, 7, 2}};
        for (int what = 0; what < 5; what++) {
            Check.same("closed(0, " + what + ")", x.closed(0, what), due[0][what]);
            Check.same("closed(1, " + what + ")", x.closed(1, what), due[1][what]);
        }
        Doc.says(22, "Throws `NoSuchElementException` if there are not so many closed weeks, or they are not kept, or what is "
                + "out of range, or back is negative");
        Check.noSuchOutside("back", 0, 1, n -> x.closed(n, 4));
        Check.noSuchOutside("what of a closed week", 0, 4, n -> x.closed(1, n));
        x.undo();
        Check.noSuch("a week that was undone", () -> x.closed(1, 0));
        CinemaChain y = Texts.twoHouses();
        Check.noSuch("without a closed week", () -> y.closed(0, 0));
    }

    private static void promise22Kept() {
        Doc.says(22, "The 20 most recent ones are kept.");
        CinemaChain x = Check.loaded("house 1 1;screen 0 1 1 0;");
        for (int week = 1; week <= 60; week++) {
            x.setRent(0, week);
            x.close();
            int kept = Math.min(week, 20);
            Check.same("the most recent one of " + week, x.closed(0, 2), week);
            Check.same("the oldest one of " + week, x.closed(kept - 1, 2), week - kept + 1);
            Check.noSuch("one before it", () -> x.closed(kept, 2));
        }
        Doc.says(22, "Throws `NoSuchElementException` if there are not so many closed weeks, or they are not kept");
        Check.noSuchOutside("back", 0, 19, n -> x.closed(n, 2));
        x.undo();
        Check.same("the oldest one behind undo", x.closed(19, 2), 40);
        Check.same("the most recent one behind undo", x.closed(0, 2), 59);
    }

    private static void promises23And24() {
        Doc.says(23, "0 without closed weeks.");
        CinemaChain x = Check.loaded("house 1 100;screen 0 9 1 0;film 1 100 0 0;prints 0 0 1;");
        x.book(0, 0);
        Check.sameNumber("no closed week", x.meanTakings(), 0);
        x.close();
        x.undo();
        Check.sameNumber("none behind undo", x.meanTakings(), 0);
        Doc.says(23, "Returns the mean of the takings of all closed weeks, as doubles (their sum and number converted, then "
                + "divided);");
        x.close();
        Check.sameNumber("one week", x.meanTakings(), 7);
        x.empty(0);
        x.close();
        x.close();
        Check.sameNumber("three weeks", x.meanTakings(), 7.0 / 3.0);
        for (int week = 3; week < 60; week++) {
            x.close();
        }
        Check.sameNumber("sixty weeks, also those that are not kept", x.meanTakings(), 7.0 / 60.0);
        Doc.says(24, "0 without screens.");
        Check.sameNumber("a new object", new CinemaChain().filled(), 0);
        Check.sameNumber("houses and films alone", Check.loaded("house 1 1;film 9 9 9 9;prints 0 0 9;").filled(), 0);
        Doc.says(24, "Returns the visitors of all screens in the present week divided by 7 times the capacities of all "
                + "screens, as floats (both converted to float, then divided);");
        CinemaChain y = Check.loaded("house 1 1;screen 0 3 1 0;screen 0 2 2 0;film 3 9 0 0;film 1 9 0 0;prints 0 0 2;"
                + "prints 1 0 1;");
        Check.sameNumber("empty screens", y.filled(), 0);
        y.book(0, 0);
        Check.sameNumber("21 of 49", y.filled(), 21f / 49f);
        y.split(1, 1, 0, 6);
        Check.sameNumber("27 of 49", y.filled(), (21f + 6f) / 49f);
        CinemaChain z = Check.loaded("house 1 1;screen 0 3 2 0;film 7 9 0 0;prints 0 0 1;");
        z.book(0, 0);
        Check.sameNumber("all seats", z.filled(), 1);
    }

    private static void formatIs(CinemaChain x, int screen, String due) {
        Check.sameText("format(" + screen + ")", Check.formatted(x, screen), due);
        Check.same("its length", x.format(screen), due.length());
    }

    private static void promise34() {
        CinemaChain x = Texts.bookedHouses();
        x.split(1, 1, 2, 1);
        x.split(2, 2, 1, 6);
        x.empty(3);
        Doc.says(34, "Formats a screen as text: 's', its number, ':', and for each day a space and the number of the film that "
                + "it shows, or '-' if it is empty;");
        formatIs(x, 0, "s0: 0 0 0 0 0 0 0");
        formatIs(x, 1, "s1: 1 2 2 2 2 2 2");
        formatIs(x, 3, "s3: - - - - - - -");
        Doc.says(34, "then ' held' if it is held.");
        x.close();
        formatIs(x, 0, "s0: 0 0 0 0 0 0 0 held");
        formatIs(x, 1, "s1: - - - - - - -");
        Doc.says(34, "Numbers have no leading zeros.");
        CinemaChain y = Check.loaded("house 1 1;house 1 1;house 1 1;" + "screen 0 1 1 0;".repeat(4)
                + "screen 1 1 1 0;".repeat(4) + "screen 2 1 1 0;".repeat(2) + "film 1 1 1 1;".repeat(6) + "prints 5 2 1;");
        y.book(9, 5);
        formatIs(y, 9, "s9: 5 5 5 5 5 5 5");
        Doc.says(34, "Returns the number of bytes of the text.");
        Check.same("a held screen", x.format(0), 22);
        Check.same("another one", x.format(1), 17);
        Doc.says(34, NO_SCREEN);
        Check.noSuchOutside("screen", 0, 3, x::format);
    }

    private static String textOf(CinemaChain x, int length) {
        StringBuilder text = new StringBuilder();
        for (int index = 0; index < length; index++) {
            text.append((char) x.formattedByte(index));
        }
        return text.toString();
    }

    private static void promise35() {
        CinemaChain x = Texts.bookedHouses();
        Doc.says(35, "NONE if index is out of range or there was no such call.");
        Check.same("no call", x.formattedByte(0), NONE);
        Check.noSuch("a call that throws", () -> x.format(4));
        Check.same("no call that formats", x.formattedByte(0), NONE);
        x.saveSnapshot();
        x.close();
        x.format(0);
        int[] outside = {-1, 22, Integer.MIN_VALUE, Integer.MAX_VALUE};
        for (int index : outside) {
            Check.same("formattedByte(" + index + ")", x.formattedByte(index), NONE);
        }
        Check.same("the first byte", x.formattedByte(0), 's');
        Check.same("the last byte", x.formattedByte(21), 'd');
        Doc.says(35, "Returns the byte at index of the text of the most recent call of format, as it was then (also behind "
                + "load, undo and restoreSnapshot);");
        String due = "s0: 0 0 0 0 0 0 0 held";
        x.undo();
        Check.sameText("behind undo", textOf(x, 22), due);
        x.book(0, 2);
        Check.sameText("behind an operation", textOf(x, 22), due);
        x.restoreSnapshot();
        Check.sameText("behind restoreSnapshot", textOf(x, 22), due);
        Check.noSuch("format(4)", () -> x.format(4));
        Check.sameText("behind a format that throws", textOf(x, 22), due);
        Check.load(x, "house");
        Check.query(x, "many 1=1");
        Check.sameText("behind an error and a query", textOf(x, 22), due);
        x.load(0);
        Check.sameText("behind load", textOf(x, 22), due);
        CinemaChain y = Texts.bookedHouses();
        y.format(0);
        y.format(3);
        Check.sameText("the most recent one", textOf(y, 17), "s3: 2 2 2 2 2 2 2");
    }

    private static void promise40() {
        CinemaChain x = Texts.bookedHouses();
        Doc.says(40, "Reads the first bytes of the buffer as a query and evaluates it for every screen in ascending order.");
        Check.same("the first of two", Check.query(x, "first capacity=30"), 1);
        Doc.says(40, "Returns for 'many' the number of screens for which the test holds;");
        Check.same("none", Check.query(x, "many screen>3"), 0);
        Check.same("all", Check.query(x, "many screen<4"), 4);
        Check.same("without screens", Check.query(new CinemaChain(), "many 1=1"), 0);
        Doc.says(40, "for 'first' the smallest such screen, or NONE;");
        Check.same("the first one", Check.query(x, "first screen<4"), 0);
        Check.same("the last one", Check.query(x, "first screen>2"), 3);
        Check.same("none", Check.query(x, "first screen>3"), NONE);
        Check.same("without screens", Check.query(new CinemaChain(), "first 1=1"), NONE);
        Doc.says(40, "HIDDEN minus the error code if the text has an error.");
        Check.same("code 1", Check.query(x, "many"), CinemaChain.HIDDEN - 1);
        Check.same("code 2", Check.query(x, "many 1=100000"), CinemaChain.HIDDEN - 2);
        Check.same("code 3", Check.query(x, "many ((((((("), CinemaChain.HIDDEN - 3);
        Check.same("without screens", Check.query(new CinemaChain(), "first 1=100000"), CinemaChain.HIDDEN - 2);
        Doc.says("Operations", "`HIDDEN = -1000000000`: Error results of query start here.");
        Check.same("HIDDEN", CinemaChain.HIDDEN, -1000000000);
        Doc.says("Operations", "`NONE = -1`: There is no such value;");
        Check.same("NONE", CinemaChain.NONE, -1);
        Doc.says("Operations", "as a place, the depot.");
        Check.same("prints in the depot", x.prints(0, -1), 1);
    }

    private static void promise40Lengths() {
        String blanks = " ".repeat(200);
        CinemaChain x = Texts.twoHouses();
        Doc.says(40, "Throws `IllegalArgumentException` if length is negative, greater than 200, or greater than the number of "
                + "bytes in the buffer (nothing changes)");
        Check.illegal("query(1) of an empty buffer", () -> x.query(1));
        Check.feed(x, "many 1=1" + blanks + blanks);
        int[] wrong = {-1, 201, 420, 421, Integer.MIN_VALUE, Integer.MAX_VALUE};
        for (int length : wrong) {
            Check.illegal("query(" + length + ")", () -> x.query(length));
        }
        Doc.says(40, "number of bytes to read, at most 200");
        Check.same("the bytes stay, 200 are read", x.query(200), 4);
        Check.feed(x, "many 1=1");
        Check.illegal("query(21) of 20 bytes", () -> x.query(21));
        Check.same("query(20)", x.query(20), 4);
        Check.feed(x, blanks + "!");
        Check.same("the error behind them is not read", x.query(200), CinemaChain.HIDDEN - 1);
        Check.same("the end of the text", x.errorPosition(), 200);
        Doc.says(40, "The buffer is empty afterwards, also after an error.");
        Check.illegal("behind an error", () -> x.query(1));
        Check.feed(x, "many 1=1 x");
        Check.same("the first eight bytes", x.query(8), 4);
        Check.illegal("behind a part of the buffer", () -> x.query(1));
        Check.illegal("for load, too", () -> x.load(1));
        Check.feed(x, "many 1=1");
        Check.same("no byte", x.query(0), CinemaChain.HIDDEN - 1);
        Check.same("the position of the end", x.errorPosition(), 0);
        Check.same("it is filled from the beginning", x.feed(0, 0, 0, 0, 0), 20);
    }
}

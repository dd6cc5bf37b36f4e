/** Boundary cases of the quantities, the takings, the close of a week and the best programs, sentence by sentence. */
final class WeekBoundaries {
    private static final int NONE = CinemaChain.NONE;
    private static final String DESCRIPTION = "Description";
    private static final String TAKINGS = "Takings";
    private static final String CLOSING = "Closing a week";
    private static final String PROGRAMS = "Best programs";

    private WeekBoundaries() {
    }

    static void all() {
        quantities();
        weeks();
        takings();
        shares();
        closing();
        programs();
    }

    // ---- quantities ----

    private static void quantities() {
        fractionsAreCutOff();
        asManyAsThereMayBe();
        allCallsOfAFullChain();
        propertiesOfHouses();
        propertiesOfScreens();
        capacities();
        propertiesOfFilms();
        placesOfPrints();
        ninePrints();
    }

    private static void fractionsAreCutOff() {
        Doc.says(DESCRIPTION, "division cuts off the fraction.");
        CinemaChain x = Check.loaded("house 1 1;screen 0 3 1 0;film 3 50 0 50;prints 0 0 1;");
        x.book(0, 0);
        Check.same("half of 21", x.share(0, 0), 10);
        x.close();
        Check.same("half of 3", x.film(0, 5), 1);
        x.close();
        Check.same("half of 1", x.film(0, 5), 0);
    }

    private static String fullText() {
        StringBuilder text = new StringBuilder("house 9 50;house 8 50;house 7 50;house 6 50;");
        for (int screen = 0; screen < 10; screen++) {
            text.append("screen ").append(screen / 4).append(" 9 1 0;");
        }
        return text + "film 9 9 0 0;".repeat(6);
    }

    private static void asManyAsThereMayBe() {
        Doc.says(DESCRIPTION, "There are at most 4 houses, 10 screens (at most 4 in a house) and 6 films, each numbered "
                + "from 0.");
        String full = fullText();
        CinemaChain x = Check.loaded(full);
        Check.same("houses", x.size(0), 4);
        Check.same("screens", x.size(1), 10);
        Check.same("films", x.size(2), 6);
        Check.same("screens of the first house", x.house(0, 2), 4);
        Check.same("screens of the last house", x.house(3, 2), 0);
        Check.noSuch("house 4", () -> x.house(4, 0));
        Check.same("the last screen", x.screen(9, 0), 2);
        Check.noSuch("screen 10", () -> x.screen(10, 0));
        Check.same("the last film", x.film(5, 0), 9);
        Check.noSuch("film 6", () -> x.film(6, 0));
        Check.failsToLoad(full + "house 1 1;", 3, full.length());
        Check.failsToLoad(full + "screen 3 1 1 0;", 3, full.length());
        Check.failsToLoad(full + "film 1 1 1 1;", 3, full.length());
        String house = "house 1 1;" + "screen 0 1 1 0;".repeat(4);
        Check.loads(house);
        Check.failsToLoad(house + "screen 0 1 1 0;", 4, house.length() + 7);
    }

    /** Screen n shows film n % 4 in its house; houses 0 to 2 have 9 prints of each film there. */
    private static CinemaChain bookedFullChain() {
        StringBuilder text = new StringBuilder("house 9 50;house 8 50;house 7 50;house 6 50;");
        for (int screen = 0; screen < 10; screen++) {
            text.append("screen ").append(screen % 4).append(" 9 1 ").append(screen).append(';');
        }
        for (int film = 0; film < 6; film++) {
            text.append("film ").append(9 - film).append(" 100 0 0 0 0 ").append(film).append(';');
            text.append("prints ").append(film).append(' ').append(film % 4).append(" 9;");
        }
        CinemaChain x = Check.loaded(text.toString());
        for (int screen = 0; screen < 10; screen++) {
            x.book(screen, screen % 4);
        }
        return x;
    }

    private static void allCallsOfAFullChain() {
        Doc.says(DESCRIPTION, "There are at most 4 houses, 10 screens (at most 4 in a house) and 6 films, each numbered "
                + "from 0.");
        CinemaChain x = bookedFullChain();
        int takings = (9 * 9 + 8 * 8 + 7 * 7 + 6 * 6) * 7;
        Check.same("all are booked", x.size(6), 10);
        Check.same("none is held", x.size(7), 0);
        Check.sameNumber("30 of 90 seats", x.filled(), 210f / 630f);
        Check.same("many", Check.query(x, "many screen<10"), 10);
        Check.same("first", Check.query(x, "first rent=9"), 9);
        Check.same("the last house", x.house(3, 5), 6 * 6 * 7 - 3 - 7);
        Check.same("the last place of the chart", x.chart(5), 5);
        Check.same("all takings", x.close(), takings);
        Check.same("all rents", x.total(2), 45);
        Check.same("held screens", x.size(7), 4);
        Check.same("they count as booked", x.size(6), 4);
        Check.same("program(0)", x.program(0), 1);
        Check.same("its last screen shows film 4", x.screen(8, 4), 4);
        Check.same("film 0 to house 1", x.bestMove(), 12);
        Check.same("a move", x.move(5, 1, 3), 1);
        Check.same("undo", x.undo(), 9);
        Check.sameText("the last screen", Check.formatted(x, 9), "s9: - - - - - - -");
        // What a full chain leaves behind must not be seen in a smaller one.
        Check.load(x, Texts.TWO_HOUSES);
        Check.sameText("a smaller chain behind it", Answers.andHistoryOf(x).replace("byte 115", "byte -1"),
                Answers.andHistoryOf(Texts.twoHouses()));
    }

    /** The ends of a range, the numbers beside them, and a sign in place of a number. */
    private static void range(String before, int least, int greatest, String behind) {
        int position = before.length();
        Check.loads(before + least + behind);
        Check.loads(before + greatest + behind);
        Check.failsToLoad(before + (greatest + 1) + behind, 2, position);
        if (least > 0) {
            Check.failsToLoad(before + (least - 1) + behind, 2, position);
        }
        Check.failsToLoad(before + "-1" + behind, 1, position);
        // These are least or 1 again where 32 or 64 bits wrap around.
        Check.failsToLoad(before + (4294967296L + least) + behind, 2, position);
        Check.failsToLoad(before + "18446744073709551617" + behind, 2, position);
    }

    private static void propertiesOfHouses() {
        Doc.says(DESCRIPTION, "A house has a price of a ticket (1 to 99) and a holdover percentage (1 to 100).");
        range("house ", 1, 99, " 1;");
        range("house 1 ", 1, 100, ";");
        CinemaChain x = Check.loaded("house 1 100;house 99 1;");
        Check.same("the least price", x.house(0, 0), 1);
        Check.same("the greatest percentage", x.house(0, 1), 100);
        Check.same("the greatest price", x.house(1, 0), 99);
        Check.same("the least percentage", x.house(1, 1), 1);
    }

    private static void propertiesOfScreens() {
        Doc.says(DESCRIPTION, "A screen belongs to a house and has seats (1 to 500), shows a day (1 to 6) and a rent a "
                + "week (0 to 9999);");
        String house = "house 1 1;";
        range(house + "screen ", 0, 0, " 1 1 0;");
        range(house + house + "screen ", 0, 1, " 1 1 0;");
        range(house + "screen 0 ", 1, 500, " 1 0;");
        range(house + "screen 0 1 ", 1, 6, " 0;");
        range(house + "screen 0 1 1 ", 0, 9999, ";");
        CinemaChain x = Check.loaded(house + "screen 0 500 1 9999;screen 0 1 6 0;");
        int[][] due = {{0, 500, 1, 9999}, {0, 1, 6, 0}};
        for (int what = 0; what < 4; what++) {
            Check.same("screen(0, " + what + ")", x.screen(0, what), due[0][what]);
            Check.same("screen(1, " + what + ")", x.screen(1, what), due[1][what]);
        }
    }

    private static void capacities() {
        Doc.says(DESCRIPTION, "its capacity is seats * shows.");
        CinemaChain x = Check.loaded("house 99 100;screen 0 500 6 0;screen 0 1 1 0;film 9999 100 0 90;prints 0 0 2;");
        Check.same("the greatest capacity", Check.query(x, "first capacity=3000"), 0);
        Check.same("the least capacity", Check.query(x, "first capacity=1"), 1);
        Check.same("the takings of a full screen", x.book(0, 0), 3000 * 99 * 7);
        Check.same("those of one seat", x.book(1, 0), 99 * 7);
        Check.same("the share of both", x.share(0, 0), 1871723);
        Check.yes("a full screen is held at 100", x.wouldHold(0));
    }

    private static void propertiesOfFilms() {
        Doc.says(DESCRIPTION, "A film has a demand (0 to 9999 visitors a day in each house), a kept percentage (0 to 100), "
                + "a guarantee (0 to 9999) and 1 to 4 terms (percentages, 0 to 90).");
        range("film ", 0, 9999, " 0 0 0;");
        range("film 0 ", 0, 100, " 0 0;");
        range("film 0 0 ", 0, 9999, " 0;");
        range("film 0 0 0 ", 0, 90, ";");
        range("film 0 0 0 0 ", 0, 90, ";");
        range("film 0 0 0 0 0 ", 0, 90, ";");
        range("film 0 0 0 0 0 0 ", 0, 90, ";");
        Check.failsToLoad("film 0 0 0;", 1, 10);
        Check.failsToLoad("film 0 0 0 0 0 0 0 0;", 1, 19);
        CinemaChain x = Check.loaded("film 9999 0 9999 90;film 0 100 0 0 90 90 0;");
        int[][] due = {{9999, 0, 9999, 1, 0, 9999}, {0, 100, 0, 4, 0, 0}};
        for (int what = 0; what < 6; what++) {
            Check.same("film(0, " + what + ")", x.film(0, what), due[0][what]);
            Check.same("film(1, " + what + ")", x.film(1, what), due[1][what]);
        }
        // The demand is not shared between the houses.
        CinemaChain y = Check.loaded("house 1 9;house 1 9;screen 0 5 1 0;screen 1 5 1 0;film 5 9 0 0;prints 0 0 1;"
                + "prints 0 1 1;");
        y.book(0, 0);
        Check.same("the demand in each house", y.book(1, 0), 35);
        Check.same("that in the other house stays", y.screen(0, 8), 35);
    }

    private static void placesOfPrints() {
        Doc.says(DESCRIPTION, "each print is in a house or in the depot.");
        CinemaChain x = Check.loaded("house 1 1;house 1 1;film 1 1 1 1;prints 0 0 1;");
        x.move(0, 0, NONE);
        x.move(0, NONE, 1);
        Check.same("not in the first place", x.prints(0, 0), 0);
        Check.same("not in the depot", x.prints(0, NONE), 0);
        Check.same("in the last place", x.prints(0, 1), 1);
    }

    private static void ninePrints() {
        Doc.says(DESCRIPTION, "There are at most 9 prints of a film at one place.");
        String text = "house 1 1;film 1 1 1 1;";
        range(text + "prints 0 0 ", 0, 9, ";");
        range(text + "prints 0 depot ", 0, 9, ";");
        CinemaChain x = Check.loaded(text + "film 1 1 1 1;prints 0 0 9;prints 0 depot 9;prints 1 0 9;prints 1 depot 8;");
        Check.same("a tenth print in the depot", x.move(0, 0, NONE), -4);
        Check.same("a tenth print in the house", x.move(0, NONE, 0), -4);
        Check.same("a ninth print in the depot", x.move(1, 0, NONE), 9);
    }

    // ---- weeks ----

    private static void weeks() {
        numbersOfWeeks();
        daysOfWeeks();
        splitWeeks();
        shownOnADay();
        enoughPrints();
    }

    private static void numbersOfWeeks() {
        CinemaChain x = Check.loaded("house 1 1;screen 0 9 1 0;film 9 100 0 0;prints 0 0 1;");
        Doc.says(DESCRIPTION, "Weeks are numbered from 0;");
        x.book(0, 0);
        x.close();
        Check.same("a film of week 0 has an age in week 1", x.film(0, 4), 1);
        Doc.says(DESCRIPTION, "the present week is the one after the weeks that were closed.");
        Check.same("week 1", x.size(3), 1);
        x.close();
        Check.same("week 2", x.size(3), 2);
        Check.same("the age then", x.film(0, 4), 2);
        x.undo();
        Check.same("week 1 again", x.size(3), 1);
        Check.same("the age again", x.film(0, 4), 1);
    }

    private static void daysOfWeeks() {
        Doc.says(DESCRIPTION, "The days of a week are 0 to 6.");
        CinemaChain x = Check.loaded("house 1 1;screen 0 9 1 0;film 8 100 0 0;prints 0 0 1;");
        Check.same("takings of seven days", x.book(0, 0), 56);
        Check.same("the first day", x.visitors(0, 0), 8);
        Check.same("the last day", x.visitors(0, 6), 8);
        Check.illegal("day -1", () -> x.visitors(0, -1));
        Check.illegal("day 7", () -> x.visitors(0, 7));
        Check.illegal("day -1", () -> x.shown(0, -1));
        Check.illegal("day 7", () -> x.shown(0, 7));
    }

    private static void splitWeeks() {
        Doc.says(DESCRIPTION, "In the present week, each screen is empty, or it is booked: with one film for the whole "
                + "week, or, as a split week, with a first film for the days less than a day s (1 to 6) and with another "
                + "second film from the day s on.");
        CinemaChain x = Check.loaded("house 1 1;screen 0 9 1 0;film 1 9 0 0;film 9 9 0 0;prints 0 0 1;prints 1 0 1;");
        for (int day = 0; day < 7; day++) {
            Check.same("an empty screen", x.shown(0, day), NONE);
        }
        for (int split = 1; split < 7; split++) {
            Check.same("takings of both films", x.split(0, 0, 1, split), split + 9 * (7 - split));
            for (int day = 0; day < 7; day++) {
                Check.same("day " + day + " of a week split at " + split, x.shown(0, day), day < split ? 0 : 1);
            }
        }
        Check.illegal("a second film for all days", () -> x.split(0, 0, 1, 0));
        Check.illegal("a first film for all days", () -> x.split(0, 0, 1, 7));
        Check.illegal("not another film", () -> x.split(0, 0, 0, 3));
        x.book(0, 1);
        for (int day = 0; day < 7; day++) {
            Check.same("a whole week", x.shown(0, day), 1);
        }
    }

    private static void shownOnADay() {
        Doc.says(DESCRIPTION, "A film is shown in a house on a day if at least one screen of the house shows it then.");
        CinemaChain x = Check.loaded("house 1 99;house 1 99;screen 0 9 1 0;screen 0 9 1 0;screen 1 9 1 0;film 1 100 0 0;"
                + "film 1 100 0 0;prints 0 0 2;prints 1 0 1;prints 1 1 1;");
        x.book(0, 0);
        x.split(1, 0, 1, 6);
        x.close();
        Check.same("on two screens it counts once", x.run(0, 0), 1);
        Check.same("on one screen for one day", x.run(0, 1), 1);
        Check.same("on no screen of the other house", x.run(1, 1), 0);
    }

    private static void enoughPrints() {
        Doc.says(DESCRIPTION, "On no day do more screens of a house show a film than there are prints of it in the house.");
        CinemaChain x = Check.loaded("house 1 1;house 1 1;screen 0 9 1 0;screen 0 9 1 0;screen 0 9 1 0;screen 1 9 1 0;"
                + "film 9 9 0 0;film 9 9 0 0;prints 0 0 2;prints 0 depot 9;prints 1 0 3;prints 1 1 1;");
        Check.same("the first print", x.book(0, 0), 63);
        Check.same("the second print", x.book(1, 0), 0);
        Check.same("no third print", x.book(2, 0), -3);
        Check.same("not for a part of the week", x.split(2, 0, 1, 1), -3);
        Check.same("not for the other part", x.split(2, 1, 0, 6), -3);
        Check.same("not in a house without a print", x.book(3, 0), -3);
        x.split(1, 0, 1, 6);
        Check.same("a print that is free on day 6", x.split(2, 1, 0, 6), 54);
        Check.same("it is not free on day 5", x.split(2, 1, 0, 5), -3);
        Check.same("it cannot go", x.move(0, 0, 1), -3);
    }

    // ---- takings ----

    private static void takings() {
        ages();
        dailyDemands();
        orderOfScreens();
        sumsOfTakings();
        greatestTakings();
        runs();
    }

    private static void ages() {
        CinemaChain x = Check.loaded("house 1 100;house 1 100;screen 0 9 1 0;screen 1 9 1 0;film 8 100 0 0;prints 0 0 1;"
                + "prints 0 1 1;");
        Doc.says(TAKINGS, "as long as it has not been shown in a closed week, its age is 0.");
        x.close();
        Check.same("not shown at all", x.film(0, 4), 0);
        x.book(1, 0);
        Check.same("shown in the present week", x.film(0, 4), 0);
        Doc.says(TAKINGS, "The age of a film is the number of the present week minus the number of the closed week in "
                + "which it was first shown in any house;");
        x.close();
        Check.same("first shown one week ago", x.film(0, 4), 1);
        x.book(0, 0);
        x.close();
        Check.same("another house does not begin anew", x.film(0, 4), 2);
        x.close();
        Check.same("a week without it counts, too", x.film(0, 4), 3);
        CinemaChain y = Check.loaded("house 1 100;screen 0 9 1 0;film 8 50 0 0;prints 0 0 1;");
        y.book(0, 0);
        y.close();
        y.undo();
        y.empty(0);
        y.close();
        Check.same("a close that was undone is no closed week", y.film(0, 4), 0);
        Check.same("its demand is whole", y.film(0, 5), 8);
    }

    private static void dailyDemands() {
        Doc.says(TAKINGS, "The daily demand of the film is its demand after as many steps as its age, in each of which it "
                + "becomes (itself * kept percentage) / 100.");
        CinemaChain x = Check.loaded("house 1 100;screen 0 1 1 0;screen 0 1 1 0;screen 0 1 1 0;screen 0 1 1 0;"
                + "film 9999 0 0 0;film 9999 100 0 0;film 9999 99 0 0;film 0 100 0 0;"
                + "prints 0 0 1;prints 1 0 1;prints 2 0 1;prints 3 0 1;");
        int[][] due = {{9999, 9999, 9999, 0}, {0, 9999, 9899, 0}, {0, 9999, 9800, 0}, {0, 9999, 9702, 0}};
        for (int film = 0; film < 4; film++) {
            x.book(film, film);
        }
        for (int age = 0; age < 4; age++) {
            for (int film = 0; film < 4; film++) {
                Check.same("daily demand of film " + film + " at age " + age, x.film(film, 5), due[age][film]);
            }
            x.close();
        }
    }

    /** The visitors of a day in screens with the capacities 10, 30, 30 and 20. */
    private static void spread(int demand, int... due) {
        CinemaChain x = Check.loaded("house 1 50;screen 0 10 1 0;screen 0 6 5 0;screen 0 30 1 0;screen 0 10 2 0;film "
                + demand + " 100 0 0;prints 0 0 4;");
        for (int screen = 0; screen < 4; screen++) {
            x.book(screen, 0);
        }
        for (int screen = 0; screen < 4; screen++) {
            Check.same("visitors of screen " + screen + " of " + demand, x.visitors(screen, 3), due[screen]);
        }
    }

    private static void orderOfScreens() {
        Doc.says(TAKINGS, "On each day, the daily demand of a film in a house is spread over the screens of the house that "
                + "show it, in the order of their capacities (the greatest first, the lowest number on a tie): each has as "
                + "many visitors as are left, but not more than its capacity.");
        spread(0, 0, 0, 0, 0);
        spread(1, 0, 1, 0, 0);
        spread(30, 0, 30, 0, 0);
        spread(31, 0, 30, 1, 0);
        spread(60, 0, 30, 30, 0);
        spread(61, 0, 30, 30, 1);
        spread(80, 0, 30, 30, 20);
        spread(81, 1, 30, 30, 20);
        spread(90, 10, 30, 30, 20);
        spread(91, 10, 30, 30, 20);
        spread(9999, 10, 30, 30, 20);
    }

    private static void sumsOfTakings() {
        CinemaChain x = Check.loaded("house 99 1;house 1 1;screen 0 2 1 0;screen 0 2 1 0;screen 1 2 1 0;film 1 1 0 0;"
                + "film 3 1 0 0;prints 0 0 1;prints 1 0 2;prints 1 1 1;");
        x.split(0, 0, 1, 6);
        x.book(2, 1);
        Doc.says(TAKINGS, "The takings of a screen on a day are its visitors * the price of the house;");
        Check.same("six days with one visitor, a day with two", x.screen(0, 8), (6 + 2) * 99);
        Check.same("an empty screen", x.screen(1, 8), 0);
        Doc.says(TAKINGS, "those of a screen, house or film in a week are the sums of these.");
        Check.same("the first film", x.film(0, 6), 6 * 99);
        Check.same("the second film in both houses", x.film(1, 6), 2 * 99 + 14);
        Check.same("the house", x.house(0, 3), 8 * 99);
        x.split(1, 1, 0, 6);
        Check.same("the house with a second screen", x.house(0, 3), (6 + 2 + 12 + 1) * 99);
        Check.same("the first film on both screens", x.film(0, 6), 7 * 99);
    }

    private static void greatestTakings() {
        Doc.says(TAKINGS, "The greatest possible takings of a screen on one day are its capacity * the price.");
        CinemaChain x = Check.loaded("house 99 100;screen 0 500 6 0;screen 0 500 6 0;film 3000 100 0 0;film 2999 100 0 0;"
                + "prints 0 0 1;prints 1 0 1;");
        x.book(0, 0);
        x.book(1, 1);
        Check.yes("all of them are held at 100", x.wouldHold(0));
        Check.no("one visitor less is not", x.wouldHold(1));
    }

    private static void runs() {
        Doc.says(TAKINGS, "The run of a film in a house is the number of closed weeks in which it was shown there.");
        CinemaChain x = Check.loaded("house 1 100;house 1 100;screen 0 9 1 0;screen 1 9 1 0;film 0 100 0 0;prints 0 0 1;");
        x.book(0, 0);
        Check.same("the present week does not count", x.run(0, 0), 0);
        x.close();
        Check.same("a week without visitors counts", x.run(0, 0), 1);
        x.close();
        Check.same("a week without the film does not", x.run(0, 0), 1);
        Check.same("the other house", x.run(1, 0), 0);
        x.book(0, 0);
        x.close();
        Check.same("weeks need not be neighbours", x.run(0, 0), 2);
        x.undo();
        Check.same("a close that was undone does not count", x.run(0, 0), 1);
    }

    // ---- shares ----

    private static void shares() {
        termsAndGuarantees();
        termsOfRuns();
        notShown();
        nets();
    }

    /** The share of takings of 700. */
    private static void shareIs(int guarantee, int term, int due) {
        CinemaChain x = Check.loaded("house 10 1;screen 0 10 1 0;film 10 100 " + guarantee + " " + term
                + ";prints 0 0 1;");
        x.book(0, 0);
        Check.same("share with guarantee " + guarantee + " and term " + term, x.share(0, 0), due);
    }

    private static final String SHARE = "The share of a film in a house in the present week is the greater one of (takings "
            + "of the film in the house this week * term) / 100 and the lesser one of the guarantee and these takings, where "
            + "the term is the one with the index of the run, or the last one if there are not so many;";

    private static void termsAndGuarantees() {
        Doc.says(TAKINGS, SHARE);
        shareIs(0, 0, 0);
        shareIs(1, 0, 1);
        shareIs(699, 0, 699);
        shareIs(700, 0, 700);
        shareIs(701, 0, 700);
        shareIs(9999, 90, 700);
        shareIs(69, 10, 70);
        shareIs(70, 10, 70);
        shareIs(71, 10, 71);
        shareIs(0, 90, 630);
    }

    private static void shareOfWeeks(String terms, int... due) {
        CinemaChain x = Check.loaded("house 10 1;screen 0 10 1 0;film 10 100 0 " + terms + ";prints 0 0 1;");
        x.book(0, 0);
        for (int run = 0; run < due.length; run++) {
            Check.same("the share with terms " + terms + " and run " + run, x.share(0, 0), due[run]);
            x.close();
        }
    }

    private static void termsOfRuns() {
        Doc.says(TAKINGS, SHARE);
        shareOfWeeks("90 0 7 60", 630, 0, 49, 420, 420, 420);
        shareOfWeeks("10 20", 70, 140, 140);
        shareOfWeeks("30", 210, 210);
    }

    private static void notShown() {
        Doc.says(TAKINGS, "it is 0 if the film is not shown there.");
        CinemaChain x = Check.loaded("house 1 1;house 1 1;screen 0 9 1 0;screen 1 9 1 0;film 9 9 9999 90;prints 0 0 1;");
        Check.same("not shown at all", x.share(0, 0), 0);
        x.book(0, 0);
        Check.same("shown there", x.share(0, 0), 63);
        Check.same("shown in another house", x.share(1, 0), 0);
        x.empty(0);
        Check.same("no more shown", x.share(0, 0), 0);
    }

    private static void nets() {
        Doc.says(TAKINGS, "The net of a house in a week is its takings minus the shares of all films there minus the rents "
                + "of all its screens.");
        CinemaChain x = Check.loaded("house 1 1;house 1 1;screen 0 9 1 9999;screen 0 9 1 9999;screen 1 9 1 5;"
                + "film 9 9 0 0;film 9 9 63 0;prints 0 0 1;prints 1 0 1;");
        Check.same("rents of empty screens, below 0", x.house(0, 5), -19998);
        x.book(0, 0);
        Check.same("takings without a share", x.house(0, 5), 63 - 19998);
        x.book(1, 1);
        Check.same("takings that are all shared", x.house(0, 5), 63 - 19998);
        Check.same("the other house", x.house(1, 5), -5);
        Check.same("a house without screens", Check.loaded("house 1 1;").house(0, 5), 0);
    }

    // ---- closing ----

    private static void closing() {
        amountsOfAWeek();
        filledWellEnough();
        filledByTheLastFilm();
        heldBookings();
        otherScreens();
        feesOfMoves();
    }

    private static void totalsAre(CinemaChain x, int... due) {
        for (int what = 0; what < due.length; what++) {
            Check.same("total(" + what + ")", x.total(what), due[what]);
        }
    }

    private static void amountsOfAWeek() {
        Doc.says(CLOSING, "When a week is closed, its takings, shares, rents (of all screens, also of empty ones) and fees "
                + "are added to the totals.");
        CinemaChain x = Check.loaded("house 1 1;screen 0 9 1 30;screen 0 9 1 4;film 9 100 0 50;prints 0 0 1;"
                + "prints 0 depot 1;fee 5;");
        totalsAre(x, 0, 0, 0, 0, 0);
        x.close();
        totalsAre(x, 0, 0, 34, 0, -34);
        x.book(0, 0);
        x.move(0, NONE, 0);
        x.close();
        totalsAre(x, 63, 31, 68, 5, 63 - 31 - 68 - 5);
        x.close();
        totalsAre(x, 126, 62, 102, 5, 126 - 62 - 102 - 5);
    }

    private static final String HOLD = "Then for each screen that shows a film on day 6: if the takings of this film on this "
            + "screen in this week, times 100, are at least the holdover percentage of the house times the greatest possible "
            + "takings of the screen on the days on which it shows the film, then the film is held: in the next week the "
            + "screen is booked with it for the whole week, and this booking cannot be changed.";

    private static void holdIs(int demand, int percentage, int due) {
        CinemaChain x = Check.loaded("house 3 " + percentage + ";screen 0 10 1 0;film " + demand
                + " 100 0 0;prints 0 0 1;");
        x.book(0, 0);
        x.close();
        Check.same("held with " + demand + " of 10 at " + percentage, x.screen(0, 7), due);
    }

    private static void filledWellEnough() {
        Doc.says(CLOSING, HOLD);
        holdIs(0, 1, 0);
        holdIs(1, 10, 1);
        holdIs(1, 11, 0);
        holdIs(7, 70, 1);
        holdIs(7, 71, 0);
        holdIs(9, 100, 0);
        holdIs(10, 100, 1);
        holdIs(11, 100, 1);
    }

    /** Film 0 fills 10 of 10 seats, film 1 fills 5. */
    private static void heldFilmIs(int first, int second, int day, int percentage, int due) {
        CinemaChain x = Check.loaded("house 3 " + percentage + ";screen 0 10 1 0;film 10 100 0 0;film 5 100 0 0;"
                + "prints 0 0 1;prints 1 0 1;");
        x.split(0, first, second, day);
        x.close();
        Check.same("the film behind a week of " + first + " and " + second + " from day " + day + " on",
                x.screen(0, 4), due);
        Check.same("its hold", x.screen(0, 7), due == NONE ? 0 : 1);
    }

    private static void filledByTheLastFilm() {
        Doc.says(CLOSING, HOLD);
        for (int day = 1; day < 7; day++) {
            heldFilmIs(0, 1, day, 50, 1);
            heldFilmIs(0, 1, day, 51, NONE);
            heldFilmIs(1, 0, day, 100, 0);
        }
        CinemaChain x = Check.loaded("house 3 50;screen 0 10 1 0;film 10 100 0 0;prints 0 0 1;");
        x.close();
        Check.same("an empty screen is not held", x.screen(0, 7), 0);
        // Another screen's visitors of the same film do not count for this one.
        CinemaChain y = Check.loaded("house 3 50;screen 0 10 1 0;screen 0 10 1 0;film 14 100 0 0;prints 0 0 2;");
        y.book(0, 0);
        y.book(1, 0);
        y.close();
        Check.same("10 of 10 are held", y.screen(0, 7), 1);
        Check.same("4 of 10 are not", y.screen(1, 7), 0);
    }

    private static void heldBookings() {
        Doc.says(CLOSING, HOLD);
        CinemaChain x = Check.loaded("house 3 50;screen 0 10 1 0;film 10 100 0 0;film 99 100 0 0;prints 0 0 2;"
                + "prints 1 0 2;");
        x.split(0, 1, 0, 6);
        x.close();
        Check.same("the film of day 6", x.screen(0, 4), 0);
        Check.same("no second film", x.screen(0, 5), NONE);
        Check.same("for the whole week", x.screen(0, 6), 0);
        Check.same("held", x.screen(0, 7), 1);
        Check.same("book", x.book(0, 1), -2);
        Check.same("book with the same film", x.book(0, 0), -2);
        Check.same("split", x.split(0, 0, 1, 6), -2);
        Check.same("empty", x.empty(0), -2);
        Check.same("program", x.program(0), 0);
        Check.same("the film stays", x.screen(0, 4), 0);
        x.setHoldover(0, 100);
        x.close();
        Check.same("it is judged anew each week", x.screen(0, 7), 1);
        x.setHoldover(0, 100);
        x.undo();
        x.undo();
        x.undo();
        x.undo();
        Check.same("undo of all behind the first close", x.screen(0, 7), 1);
        x.undo();
        Check.same("undo of the first close", x.screen(0, 7), 0);
        Check.same("the split week is back", x.screen(0, 6), 6);
    }

    private static void otherScreens() {
        Doc.says(CLOSING, "All other screens are empty in the next week.");
        CinemaChain x = Check.loaded("house 3 100;screen 0 10 1 0;screen 0 10 1 0;screen 0 10 1 0;film 1 100 0 0;"
                + "film 10 100 0 0;prints 0 0 2;prints 1 0 2;");
        x.book(0, 0);
        x.split(1, 1, 0, 6);
        x.close();
        for (int screen = 0; screen < 3; screen++) {
            Check.same("screen " + screen, x.screen(screen, 4), NONE);
            Check.same("its second film", x.screen(screen, 5), NONE);
            Check.same("its day", x.screen(screen, 6), 0);
            Check.same("its hold", x.screen(screen, 7), 0);
        }
        Check.same("no booked screen", x.size(6), 0);
    }

    private static void feesOfMoves() {
        Doc.says(CLOSING, "Moving a print costs the fee (0 to 999, at first 0) in the present week.");
        range("fee ", 0, 999, ";");
        CinemaChain x = Check.loaded("house 1 1;film 1 1 1 1;prints 0 depot 9;");
        Check.same("at first", x.size(4), 0);
        x.move(0, NONE, 0);
        x.close();
        Check.same("a move without a fee", x.closed(0, 3), 0);
        x.setFee(999);
        x.move(0, NONE, 0);
        x.move(0, NONE, 0);
        x.move(0, NONE, 0);
        x.undo();
        x.close();
        Check.same("two moves", x.closed(0, 3), 1998);
        x.close();
        Check.same("the next week", x.closed(0, 3), 0);
    }

    // ---- best programs ----

    private static void programs() {
        heldAndBookedScreens();
        printsOfPrograms();
        gainsOfPrograms();
        tiesOfPrograms();
    }

    private static void programIs(CinemaChain x, int... due) {
        for (int screen = 0; screen < due.length; screen++) {
            Check.same("bestFilm(" + screen + ")", x.bestFilm(screen), due[screen]);
        }
    }

    private static void heldAndBookedScreens() {
        String text = "house 1 50;screen 0 9 1 0;screen 0 9 1 0;film 5 100 0 0;film 9 100 0 0;prints 0 0 1;"
                + "prints 1 0 2;";
        CinemaChain x = Check.loaded(text);
        Doc.says(PROGRAMS, "present bookings of other screens do not matter)");
        x.split(0, 0, 1, 3);
        x.book(1, 1);
        programIs(x, 0, 1);
        Doc.says(PROGRAMS, "(held screens stay as they are;");
        x.empty(0);
        x.book(1, 0);
        x.close();
        Check.same("screen 1 is held", x.screen(1, 7), 1);
        programIs(x, 1, 0);
        x.undo();
        x.book(0, 1);
        x.close();
        Check.same("both are held", x.size(7), 2);
        programIs(x, 1, 0);
    }

    private static void printsOfPrograms() {
        Doc.says(PROGRAMS, "and shows no film on more screens than there are prints of it in the house.");
        String text = "house 1 50;house 1 50;screen 0 9 1 0;screen 0 9 1 0;film 99 100 0 0;prints 0 depot 9;prints 0 1 9;";
        programIs(Check.loaded(text), NONE, NONE);
        programIs(Check.loaded(text + "prints 0 0 1;"), NONE, 0);
        programIs(Check.loaded(text + "prints 0 0 2;"), 0, 0);
        programIs(Check.loaded(text + "prints 0 0 3;"), 0, 0);
        CinemaChain x = Check.loaded(text + "prints 0 0 1;");
        x.book(0, 0);
        x.close();
        Check.same("screen 0 is held with the only print", x.screen(0, 7), 1);
        programIs(x, 0, NONE);
    }

    private static void gainsOfPrograms() {
        Doc.says(PROGRAMS, "Its gain is the takings of the house minus the shares.");
        CinemaChain x = Check.loaded("house 1 50;screen 0 9 1 9999;film 9 100 0 90;film 9 100 57 0;film 1 100 0 0;"
                + "prints 0 0 1;prints 1 0 1;prints 2 0 1;");
        Check.same("7 of 63, 6 of 63 or 7 of 7, without the rent", x.bestGain(0), 7);
        Check.same("the lesser film on a tie", x.bestFilm(0), 0);
        Doc.says(PROGRAMS, "The best program has the greatest gain;");
        CinemaChain y = Check.loaded("house 1 50;screen 0 9 1 9999;film 9 100 0 90;film 9 100 55 0;film 1 100 0 0;"
                + "prints 0 0 1;prints 1 0 1;prints 2 0 1;");
        Check.same("8 is one more than 7", y.bestGain(0), 8);
        Check.same("its film", y.bestFilm(0), 1);
    }

    private static void tiesOfPrograms() {
        Doc.says(PROGRAMS, "of several, screen by screen in ascending order, the one that first has the lesser film, where an "
                + "empty screen counts as less than every film.");
        String house = "house 1 50;screen 0 9 1 0;screen 0 9 1 0;screen 0 9 1 0;";
        programIs(Check.loaded(house + "film 0 100 0 0;prints 0 0 3;"), NONE, NONE, NONE);
        programIs(Check.loaded(house + "film 9 100 9999 0;prints 0 0 3;"), NONE, NONE, NONE);
        programIs(Check.loaded(house + "film 9 100 0 0;prints 0 0 3;"), NONE, NONE, 0);
        programIs(Check.loaded(house + "film 9 100 0 0;film 9 100 0 0;prints 0 0 3;prints 1 0 3;"), NONE, 0, 1);
        programIs(Check.loaded(house + "film 27 100 0 0;film 9 100 0 0;prints 0 0 3;prints 1 0 3;"), 0, 0, 0);
        programIs(Check.loaded(house + "film 18 100 0 0;film 9 100 0 0;prints 0 0 3;prints 1 0 3;"), 0, 0, 1);
        programIs(Check.loaded(house + "film 9 100 0 0;film 18 100 0 0;prints 0 0 3;prints 1 0 3;"), 0, 1, 1);
        programIs(Check.loaded("house 1 50;screen 0 9 1 0;film 9 100 0 0;film 9 100 0 0;prints 0 0 1;prints 1 0 1;"), 0);
        programIs(Check.loaded("house 1 50;screen 0 9 1 0;film 9 100 0 0;film 9 100 0 0;prints 1 0 1;"), 1);
    }
}

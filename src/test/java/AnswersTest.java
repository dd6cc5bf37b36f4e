/** Promises 5 to 17 and 21 to 24: what the answers say of the chain, the present week and closed weeks. */
public final class AnswersTest {
    private static final int NONE = CinemaChain.NONE;

    public static void main(String[] args) {
        promise5Size();
        promise6House();
        promise7Screen();
        promise8Film();
        promise8Age();
        promise9Term();
        promise10Prints();
        promise11Shown();
        promise12Visitors();
        promise12Order();
        promise13Share();
        promise14Run();
        promise15WouldHold();
        promise16Forecast();
        promise17Chart();
        promise21Total();
        promise22Closed();
        promise23MeanTakings();
        promise24Filled();
        fullChain();
        greatestAmounts();
        Check.end();
    }

    private static void promise5Size() {
        CinemaChain x = Texts.bookedHouses();
        int[] due = {2, 4, 3, 0, 7, 0, 4, 0};
        for (int what = 0; what < due.length; what++) {
            Check.same("size(" + what + ")", x.size(what), due[what]);
        }
        x.move(0, NONE, 1);
        x.move(0, 1, NONE);
        Check.same("moves", x.size(5), 2);
        x.close();
        Check.same("closed weeks", x.size(3), 1);
        Check.same("moves of the next week", x.size(5), 0);
        Check.same("booked screens are the held ones", x.size(6), 2);
        Check.same("held screens", x.size(7), 2);
        x.split(2, 1, 2, 4);
        Check.same("a split week is a booking", x.size(6), 3);
        Check.noSuch("size(-1)", () -> x.size(-1));
        Check.noSuch("size(8)", () -> x.size(8));
    }

    private static void promise6House() {
        CinemaChain x = Texts.bookedHouses();
        int[] due = {10, 50, 3, 4900, 1680 + 1050, 4900 - 1680 - 1050 - 150};
        for (int what = 0; what < due.length; what++) {
            Check.same("house(0, " + what + ")", x.house(0, what), due[what]);
        }
        Check.same("takings of house 1", x.house(1, 3), 9 * 7 * 4);
        Check.same("the guarantee takes all", x.house(1, 4), 9 * 7 * 4);
        Check.same("a net below 0", x.house(1, 5), -7);
        Check.noSuch("house(2, 0)", () -> x.house(2, 0));
        Check.noSuch("house(-1, 0)", () -> x.house(-1, 0));
        Check.noSuch("house(0, 6)", () -> x.house(0, 6));
        Check.noSuch("house(0, -1)", () -> x.house(0, -1));
    }

    private static void screenIs(CinemaChain x, int screen, int... due) {
        for (int what = 0; what < due.length; what++) {
            Check.same("screen(" + screen + ", " + what + ")", x.screen(screen, what), due[what]);
        }
    }

    private static void promise7Screen() {
        CinemaChain x = Texts.twoHouses();
        screenIs(x, 1, 0, 10, 3, 50, NONE, NONE, 0, 0, 0);
        x.book(1, 1);
        screenIs(x, 1, 0, 10, 3, 50, 1, NONE, 0, 0, 2100);
        x.split(1, 2, 1, 2);
        screenIs(x, 1, 0, 10, 3, 50, 2, 1, 2, 0, (2 * 9 + 5 * 30) * 10);
        x.close();
        screenIs(x, 1, 0, 10, 3, 50, 1, NONE, 0, 1, 24 * 7 * 10);
        screenIs(x, 3, 1, 50, 1, 7, NONE, NONE, 0, 0, 0);
        Check.noSuch("screen(4, 0)", () -> x.screen(4, 0));
        Check.noSuch("screen(-1, 0)", () -> x.screen(-1, 0));
        Check.noSuch("screen(0, 9)", () -> x.screen(0, 9));
        Check.noSuch("screen(0, -1)", () -> x.screen(0, -1));
    }

    private static void promise8Film() {
        CinemaChain x = Texts.bookedHouses();
        x.move(0, NONE, 1);
        x.book(3, 0);
        int[] due = {50, 50, 100, 2, 0, 50, 2800 + 50 * 7 * 4, 0};
        for (int what = 0; what < due.length; what++) {
            Check.same("film(0, " + what + ")", x.film(0, what), due[what]);
        }
        x.close();
        Check.same("takings in closed weeks", x.film(0, 7), 4200);
        Check.same("takings now", x.film(0, 6), 25 * 7 * (10 + 4));
        x.close();
        Check.same("takings in closed weeks", x.film(0, 7), 4200 + 25 * 7 * 14);
        Check.noSuch("film(3, 0)", () -> x.film(3, 0));
        Check.noSuch("film(-1, 0)", () -> x.film(-1, 0));
        Check.noSuch("film(0, 8)", () -> x.film(0, 8));
        Check.noSuch("film(0, -1)", () -> x.film(0, -1));
    }

    private static void promise8Age() {
        CinemaChain x = Texts.twoHouses();
        x.close();
        Check.same("not shown yet, no age", x.film(1, 4), 0);
        x.book(0, 1);
        Check.same("shown for the first time", x.film(1, 4), 0);
        Check.same("with the full demand", x.film(1, 5), 30);
        x.setHoldover(0, 100);
        int[] daily = {24, 19, 15, 12, 9, 7};
        for (int week = 0; week < daily.length; week++) {
            x.close();
            Check.same("age, also in empty weeks", x.film(1, 4), week + 1);
            // A fraction is lost in each step: 30 * 0.8 ^ 6 alone would be 7.86.
            Check.same("daily demand", x.film(1, 5), daily[week]);
        }
        Check.same("the demand itself stays", x.film(1, 0), 30);
        Check.same("another film has no age", x.film(0, 4), 0);
        Check.same("another film keeps its demand", x.film(0, 5), 50);
    }

    private static void promise9Term() {
        CinemaChain x = Check.loaded("film 1 1 1 90 0 7 60;film 1 1 1 5;film 1 1 1 8 9;");
        int[] due = {90, 0, 7, 60};
        for (int index = 0; index < due.length; index++) {
            Check.same("term(0, " + index + ")", x.term(0, index), due[index]);
        }
        Check.same("term(1, 0)", x.term(1, 0), 5);
        Check.same("term(2, 0)", x.term(2, 0), 8);
        Check.same("term(2, 1)", x.term(2, 1), 9);
        Check.noSuch("term(0, 4)", () -> x.term(0, 4));
        Check.noSuch("term(0, -1)", () -> x.term(0, -1));
        Check.noSuch("term(1, 1)", () -> x.term(1, 1));
        Check.noSuch("term(3, 0)", () -> x.term(3, 0));
        Check.noSuch("term(-1, 0)", () -> x.term(-1, 0));
    }

    private static void promise10Prints() {
        CinemaChain x = Texts.twoHouses();
        Check.same("prints in house 0", x.prints(1, 0), 2);
        Check.same("prints in house 1", x.prints(2, 1), 1);
        Check.same("prints in the depot", x.prints(0, NONE), 1);
        Check.same("no prints", x.prints(0, 1), 0);
        Check.noSuch("prints(3, 0)", () -> x.prints(3, 0));
        Check.noSuch("prints(-1, 0)", () -> x.prints(-1, 0));
        Check.noSuch("prints(0, 2)", () -> x.prints(0, 2));
        Check.noSuch("prints(0, -2)", () -> x.prints(0, -2));
    }

    private static void promise11Shown() {
        CinemaChain x = Texts.twoHouses();
        x.split(1, 1, 2, 3);
        x.book(0, 0);
        int[] due = {1, 1, 1, 2, 2, 2, 2};
        for (int day = 0; day < 7; day++) {
            Check.same("shown(1, " + day + ")", x.shown(1, day), due[day]);
            Check.same("shown(0, " + day + ")", x.shown(0, day), 0);
            Check.same("shown(2, " + day + ")", x.shown(2, day), NONE);
        }
        Check.illegal("shown(0, 7)", () -> x.shown(0, 7));
        Check.illegal("shown(0, -1)", () -> x.shown(0, -1));
        Check.noSuch("shown(4, 7)", () -> x.shown(4, 7));
        Check.noSuch("shown(-1, 0)", () -> x.shown(-1, 0));
    }

    private static void promise12Visitors() {
        CinemaChain x = Texts.twoHouses();
        x.split(1, 1, 2, 3);
        x.book(0, 0);
        int[] due = {30, 30, 30, 9, 9, 9, 9};
        for (int day = 0; day < 7; day++) {
            Check.same("visitors(1, " + day + ")", x.visitors(1, day), due[day]);
            Check.same("no more than the capacity", x.visitors(0, day), 40);
            Check.same("visitors of an empty screen", x.visitors(2, day), 0);
        }
        Check.illegal("visitors(0, 7)", () -> x.visitors(0, 7));
        Check.illegal("visitors(0, -1)", () -> x.visitors(0, -1));
        Check.noSuch("visitors(4, 7)", () -> x.visitors(4, 7));
        Check.noSuch("visitors(-1, 0)", () -> x.visitors(-1, 0));
    }

    /** Capacities 10, 30, 30 and 20 in house 0, and 30 in house 1. */
    private static CinemaChain fourScreens(int demand) {
        return Check.loaded("house 1 50;house 1 50;screen 0 10 1 0;screen 0 30 1 0;screen 0 6 5 0;screen 0 10 2 0;"
                + "screen 1 30 1 0;film " + demand + " 100 0 0;film 5 100 0 0;prints 0 0 4;prints 0 1 1;prints 1 0 1;");
    }

    private static void visitorsAre(CinemaChain x, int day, int... due) {
        for (int screen = 0; screen < due.length; screen++) {
            Check.same("visitors(" + screen + ", " + day + ")", x.visitors(screen, day), due[screen]);
        }
    }

    private static void promise12Order() {
        CinemaChain x = fourScreens(85);
        for (int screen = 0; screen < 5; screen++) {
            x.book(screen, 0);
        }
        visitorsAre(x, 0, 5, 30, 30, 20, 30);
        x.split(2, 1, 0, 6);
        visitorsAre(x, 5, 10, 30, 5, 20, 30);
        visitorsAre(x, 6, 5, 30, 30, 20, 30);
        CinemaChain y = fourScreens(40);
        for (int screen = 0; screen < 5; screen++) {
            y.book(screen, 0);
        }
        visitorsAre(y, 3, 0, 30, 10, 0, 30);
        CinemaChain z = Check.loaded("house 1 9;screen 0 9 1 0;screen 0 10 1 0;film 12 9 0 0;prints 0 0 2;");
        z.book(0, 0);
        z.book(1, 0);
        visitorsAre(z, 0, 2, 10);
    }

    private static void promise13Share() {
        CinemaChain x = Texts.bookedHouses();
        Check.same("by the term", x.share(0, 0), 1680);
        Check.same("without a guarantee", x.share(0, 1), 1050);
        Check.same("by the guarantee, but not above the takings", x.share(1, 2), 252);
        Check.same("not shown there", x.share(0, 2), 0);
        Check.same("not shown there", x.share(1, 0), 0);
        x.close();
        Check.same("the second term in the second week", x.share(0, 0), 1750 * 40 / 100);
        x.close();
        Check.same("the last term in the third week", x.share(0, 0), 12 * 70 * 40 / 100);
        Check.noSuch("share(2, 0)", () -> x.share(2, 0));
        Check.noSuch("share(-1, 0)", () -> x.share(-1, 0));
        Check.noSuch("share(0, 3)", () -> x.share(0, 3));
        Check.noSuch("share(0, -1)", () -> x.share(0, -1));
        CinemaChain y = Check.loaded("house 1 1;screen 0 10 1 0;film 10 100 43 61;prints 0 0 1;");
        y.book(0, 0);
        Check.same("by the guarantee: 70 * 61 / 100 is only 42", y.share(0, 0), 43);
        CinemaChain z = Check.loaded("house 1 1;screen 0 10 1 0;film 10 100 42 62;prints 0 0 1;");
        z.book(0, 0);
        Check.same("the fraction of 43.4 is cut off", z.share(0, 0), 43);
    }

    private static void promise14Run() {
        CinemaChain x = Texts.bookedHouses();
        Check.same("no closed week", x.run(0, 0), 0);
        x.close();
        Check.same("shown on one screen", x.run(0, 0), 1);
        Check.same("shown on two screens", x.run(0, 1), 1);
        Check.same("shown elsewhere", x.run(0, 2), 0);
        Check.same("shown there", x.run(1, 2), 1);
        x.split(2, 1, 2, 6);
        x.close();
        Check.same("a part of a week counts", x.run(0, 2), 1);
        Check.same("shown again", x.run(0, 0), 2);
        Check.same("not shown in the second week", x.run(1, 2), 1);
        Check.noSuch("run(2, 0)", () -> x.run(2, 0));
        Check.noSuch("run(-1, 0)", () -> x.run(-1, 0));
        Check.noSuch("run(0, 3)", () -> x.run(0, 3));
        Check.noSuch("run(0, -1)", () -> x.run(0, -1));
        CinemaChain y = Check.loaded("house 1 1;screen 0 10 1 0;film 0 50 0 0;prints 0 0 1;");
        y.book(0, 0);
        y.close();
        Check.same("shown without visitors", y.run(0, 0), 1);
        Check.same("its age", y.film(0, 4), 1);
    }

    private static void promise15WouldHold() {
        CinemaChain x = Texts.twoHouses();
        Check.no("an empty screen would be held", x.wouldHold(0));
        x.book(0, 1);
        x.setHoldover(0, 75);
        Check.yes("30 of 40 at 75 would be held", x.wouldHold(0));
        x.setHoldover(0, 76);
        Check.no("30 of 40 at 76 would be held", x.wouldHold(0));
        x.split(0, 1, 2, 3);
        x.setHoldover(0, 22);
        Check.yes("9 of 40 at 22 would be held", x.wouldHold(0));
        x.setHoldover(0, 23);
        Check.no("9 of 40 at 23, although the first film fills it", x.wouldHold(0));
        x.split(0, 2, 1, 6);
        x.setHoldover(0, 75);
        Check.yes("only the days of the second film count", x.wouldHold(0));
        Check.noSuch("wouldHold(4)", () -> x.wouldHold(4));
        Check.noSuch("wouldHold(-1)", () -> x.wouldHold(-1));
    }

    private static void promise16Forecast() {
        CinemaChain x = Texts.bookedHouses();
        Check.same("its own booking does not matter", x.forecast(0, 0), 2800);
        Check.same("the rest behind a greater screen", x.forecast(1, 0), 10 * 70);
        Check.same("a greater screen is served first", x.forecast(0, 1), 2100);
        Check.same("in another house", x.forecast(3, 0), 50 * 28);
        Check.same("on a tie the lower number", x.forecast(2, 1), 0);
        x.split(1, 1, 2, 3);
        Check.same("only on the days without the other screen", x.forecast(2, 1), 30 * 4 * 10);
        Check.same("nothing changes", x.screen(0, 4), 0);
        Check.noSuch("forecast(4, 0)", () -> x.forecast(4, 0));
        Check.noSuch("forecast(-1, 0)", () -> x.forecast(-1, 0));
        Check.noSuch("forecast(0, 3)", () -> x.forecast(0, 3));
        Check.noSuch("forecast(0, -1)", () -> x.forecast(0, -1));
        x.close();
        Check.same("holds do not matter", x.forecast(0, 2), 9 * 70);
    }

    private static void chartIs(CinemaChain x, int... due) {
        for (int place = 0; place < due.length; place++) {
            Check.same("chart(" + place + ")", x.chart(place), due[place]);
        }
    }

    private static void promise17Chart() {
        CinemaChain x = Texts.twoHouses();
        chartIs(x, 0, 1, 2);
        x.book(3, 2);
        chartIs(x, 2, 0, 1);
        x.close();
        chartIs(x, 2, 0, 1);
        x.book(1, 1);
        chartIs(x, 1, 2, 0);
        x.empty(1);
        // Seven weeks of 252 are closed, 1764 in all: less than 2100.
        for (int week = 1; week < 7; week++) {
            x.book(3, 2);
            x.close();
        }
        x.book(1, 1);
        chartIs(x, 1, 2, 0);
        x.book(3, 2);
        x.book(2, 2);
        chartIs(x, 2, 1, 0);
        CinemaChain y = Check.loaded("house 7 9;house 8 9;screen 0 9 1 0;screen 1 9 1 0;film 1 100 0 0;film 8 100 0 0;"
                + "prints 1 0 1;prints 0 1 1;");
        y.book(1, 0);
        for (int week = 0; week < 7; week++) {
            y.close();
            y.program(1);
        }
        y.empty(1);
        y.book(0, 1);
        chartIs(y, 0, 1);
        Check.same("takings of film 0, as much", y.film(0, 7), 8 * 7 * 7);
        Check.same("takings of film 1, as much", y.film(1, 6), 8 * 7 * 7);
        CinemaChain z = Check.loaded("house 1 9;screen 0 9 1 0;film 1 9 0 0;film 1 9 0 0;prints 0 0 1;prints 1 0 1;");
        z.split(0, 0, 1, 3);
        chartIs(z, 1, 0);
        z.split(0, 0, 1, 4);
        chartIs(z, 0, 1);
        x.book(0, 0);
        chartIs(x, 0, 2, 1);
        Check.noSuch("chart(3)", () -> x.chart(3));
        Check.noSuch("chart(-1)", () -> x.chart(-1));
    }

    private static void totalIs(CinemaChain x, int... due) {
        for (int what = 0; what < due.length; what++) {
            Check.same("total(" + what + ")", x.total(what), due[what]);
        }
    }

    private static void promise21Total() {
        CinemaChain x = Texts.bookedHouses();
        totalIs(x, 0, 0, 0, 0, 0);
        x.close();
        totalIs(x, 5152, 2982, 157, 0, 5152 - 2982 - 157);
        x.move(0, NONE, 1);
        x.move(0, 1, 0);
        totalIs(x, 5152, 2982, 157, 0, 5152 - 2982 - 157);
        x.setFee(100);
        x.setRent(3, 1007);
        x.close();
        totalIs(x, 5152 + 3430, 2982 + 700 + 840, 157 + 1157, 200, 8582 - 4522 - 1314 - 200);
        Check.noSuch("total(5)", () -> x.total(5));
        Check.noSuch("total(-1)", () -> x.total(-1));
    }

    private static void closedIs(CinemaChain x, int back, int... due) {
        for (int what = 0; what < due.length; what++) {
            Check.same("closed(" + back + ", " + what + ")", x.closed(back, what), due[what]);
        }
    }

    private static void promise22Closed() {
        CinemaChain x = Texts.bookedHouses();
        x.close();
        closedIs(x, 0, 5152, 2982, 157, 0, 2);
        x.move(0, NONE, 1);
        x.close();
        // 12 of 40 do not hold screen 0, 19 of 30 hold screen 1: both were held behind this week.
        closedIs(x, 0, 3430, 1540, 157, 7, 2);
        closedIs(x, 1, 5152, 2982, 157, 0, 2);
        Check.noSuch("closed(2, 0)", () -> x.closed(2, 0));
        Check.noSuch("closed(-1, 0)", () -> x.closed(-1, 0));
        Check.noSuch("closed(0, 5)", () -> x.closed(0, 5));
        Check.noSuch("closed(0, -1)", () -> x.closed(0, -1));
        CinemaChain y = Texts.twoHouses();
        for (int week = 0; week < 25; week++) {
            y.setRent(0, week);
            y.close();
        }
        for (int back = 0; back < 20; back++) {
            Check.same("closed(" + back + ", 2)", y.closed(back, 2), 24 - back + 57);
        }
        Check.noSuch("closed(20, 0)", () -> y.closed(20, 0));
        Check.noSuch("closed(greatest, 0)", () -> y.closed(Integer.MAX_VALUE, 0));
    }

    private static void promise23MeanTakings() {
        CinemaChain x = Texts.bookedHouses();
        Check.sameNumber("meanTakings without a closed week", x.meanTakings(), 0);
        x.close();
        Check.sameNumber("meanTakings", x.meanTakings(), 5152);
        x.empty(0);
        x.close();
        Check.sameNumber("meanTakings", x.meanTakings(), 4291);
        for (int week = 0; week < 23; week++) {
            x.close();
        }
        Check.sameNumber("of all weeks, not only of the kept ones", x.meanTakings(), (double) x.total(0) / 25.0);
        CinemaChain y = Check.loaded("house 1 1;screen 0 1 1 0;film 1 0 0 0;prints 0 0 1;");
        y.book(0, 0);
        y.close();
        y.close();
        y.close();
        Check.sameNumber("meanTakings with a fraction", y.meanTakings(), 7.0 / 3.0);
    }

    private static void promise24Filled() {
        CinemaChain x = Texts.bookedHouses();
        Check.sameNumber("filled", x.filled(), 553f / 1050f);
        Check.sameNumber("filled without screens", Check.loaded("house 1 1;film 1 1 1 1;").filled(), 0);
        Check.sameNumber("filled with empty screens", Texts.twoHouses().filled(), 0);
        CinemaChain y = Check.loaded("house 1 1;screen 0 3 1 0;film 9 1 1 1;prints 0 0 1;");
        y.book(0, 0);
        Check.sameNumber("filled to the last seat", y.filled(), 1);
    }

    /** As many of all as there may be. */
    private static void fullChain() {
        StringBuilder text = new StringBuilder("house 9 50;house 8 50;house 7 50;house 6 50;");
        for (int screen = 0; screen < 10; screen++) {
            text.append("screen ").append(screen % 4).append(" 9 1 ").append(screen).append(';');
        }
        for (int film = 0; film < 6; film++) {
            text.append("film ").append(9 - film).append(" 100 0 0 0 0 ").append(film).append(';');
            text.append("prints ").append(film).append(' ').append(film % 4).append(" 9;");
        }
        CinemaChain x = Check.loaded(text.toString());
        for (int screen = 0; screen < 10; screen++) {
            Check.yes("book", x.book(screen, screen % 4) >= 0);
        }
        Check.same("booked screens", x.size(6), 10);
        Check.sameNumber("filled", x.filled(), 210f / 630f);
        Check.same("no more prints may come", x.move(5, 1, NONE), 1);
        int firstOnes = (9 * 9 + 8 * 8 + 7 * 7 + 6 * 6) * 7;
        Check.same("the rents of house 3", x.house(3, 5), 6 * 6 * 7 - 3 - 7);
        Check.same("all screens match", Check.query(x, "many screen < 10"), 10);
        Check.same("the last screen", Check.query(x, "first rent > 8"), 9);
        chartIs(x, 0, 1, 2, 3, 4, 5);
        Check.same("close", x.close(), firstOnes);
        Check.same("held screens", x.size(7), 4);
        Check.same("program(3)", x.program(3), 0);
        Check.same("program(1) puts film 5 on screen 9", x.program(1), 1);
        Check.same("the last film", x.bestFilm(9), 5);
        Check.same("the last term", x.term(5, 3), 5);
        // Film 1 in house 0 would gain as much: 9 * 8 * 7.
        Check.same("film 0 to house 1", x.bestMove(), 12);
    }

    /** The film with the greatest demand fills ten screens with the most seats and shows for sixty weeks. */
    private static void greatestAmounts() {
        StringBuilder text = new StringBuilder("house 99 100;".repeat(4));
        for (int screen = 0; screen < 10; screen++) {
            text.append("screen ").append(screen % 4).append(" 500 6 9999;");
        }
        text.append("film 0 0 0 0;film 9999 100 9999 90;");
        for (int house = 0; house < 4; house++) {
            text.append("prints 1 ").append(house).append(" 3;");
        }
        CinemaChain x = Check.loaded(text.toString());
        int full = 500 * 6 * 99 * 7;
        for (int screen = 0; screen < 10; screen++) {
            Check.same("book", x.book(screen, 1), full);
        }
        Check.same("share of three screens", x.share(0, 1), 5613300);
        Check.same("net of two screens", x.house(3, 5), 2 * full - 3742200 - 2 * 9999);
        Check.sameNumber("filled", x.filled(), 1);
        for (int week = 0; week < 60; week++) {
            Check.same("close", x.close(), 10 * full);
        }
        Check.same("held screens", x.size(7), 10);
        Check.same("takings", x.total(0), 1247400000);
        Check.same("shares", x.total(1), 1122660000);
        Check.same("rents", x.total(2), 5999400);
        Check.same("what is left", x.total(4), 118740600);
        Check.same("takings of the film", x.film(1, 7), 1247400000);
        Check.same("chart", x.chart(0), 1);
        Check.sameNumber("meanTakings", x.meanTakings(), 20790000);
        Check.same("bestGain", x.bestGain(0), 3 * full - 5613300);
        Check.same("forecast", x.forecast(9, 1), full);
    }
}

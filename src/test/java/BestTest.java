/** Promises 18 to 20 and 30: best programs and best moves. */
public final class BestTest {
    private static final int NONE = CinemaChain.NONE;

    public static void main(String[] args) {
        promise18BestGain();
        promise18Shares();
        promise18Prints();
        promise18Held();
        promise19BestFilm();
        promise19Ties();
        promise20BestMove();
        promise20Ties();
        promise20Held();
        promise30Program();
        Check.end();
    }

    private static void promise18BestGain() {
        CinemaChain x = Texts.twoHouses();
        // Film 0 on screen 0 leaves 2800 - 1680, film 1 on one of the others 2100 - 1050.
        Check.same("bestGain(0)", x.bestGain(0), 1120 + 1050);
        Check.same("the guarantee leaves nothing", x.bestGain(1), 0);
        x.split(0, 2, 1, 3);
        x.book(1, 1);
        Check.same("present bookings do not matter", x.bestGain(0), 1120 + 1050);
        x.setRent(0, 9999);
        Check.same("rents do not matter", x.bestGain(0), 1120 + 1050);
        Check.noSuch("bestGain(2)", () -> x.bestGain(2));
        Check.noSuch("bestGain(-1)", () -> x.bestGain(-1));
        Check.same("a house without screens", Check.loaded("house 5 5;film 1 1 1 1;").bestGain(0), 0);
        Check.same("a house without films", Check.loaded("house 5 5;screen 0 1 1 1;").bestGain(0), 0);
    }

    private static void promise18Shares() {
        // Film 0 takes more, film 1 leaves more.
        String house = "house 10 100;screen 0 10 1 0;";
        CinemaChain x = Check.loaded(house + "film 10 100 0 90 0;film 5 100 0 0;prints 0 0 1;prints 1 0 1;");
        Check.same("bestGain", x.bestGain(0), 350);
        Check.same("bestFilm", x.bestFilm(0), 1);
        x.book(0, 0);
        x.close();
        // The screen was full and is held; with its second term film 0 leaves all.
        Check.same("the term of the run counts", x.bestGain(0), 700);
        CinemaChain y = Check.loaded(house + "film 10 100 400 0;film 9 100 0 40;prints 0 0 1;prints 1 0 1;");
        Check.same("the guarantee counts: 300 against 378", y.bestGain(0), 378);
        CinemaChain z = Check.loaded("house 10 100;screen 0 10 1 0;screen 0 10 1 0;film 15 100 400 10;prints 0 0 2;");
        Check.same("one guarantee for both screens", z.bestGain(0), 1050 - 400);
    }

    private static void promise18Prints() {
        String text = "house 10 100;screen 0 10 1 0;screen 0 10 1 0;screen 0 10 1 0;screen 0 10 1 0;film 99 100 0 0;";
        for (int prints = 0; prints < 5; prints++) {
            CinemaChain x = Check.loaded(text + "prints 0 depot 9;prints 0 0 " + prints + ";");
            Check.same("bestGain with " + prints + " prints", x.bestGain(0), prints * 700);
            for (int screen = 0; screen < 4; screen++) {
                Check.same("bestFilm with " + prints + " prints", x.bestFilm(screen), screen + prints < 4 ? NONE : 0);
            }
        }
    }

    private static void promise18Held() {
        CinemaChain x = Check.loaded("house 10 50;screen 0 10 1 0;screen 0 20 1 0;film 10 100 0 0;film 9 100 0 0;"
                + "prints 0 0 1;prints 1 0 1;");
        x.book(0, 1);
        x.close();
        Check.same("screen 0 is held", x.screen(0, 7), 1);
        Check.same("bestGain with a held screen", x.bestGain(0), 630 + 700);
        Check.same("bestFilm of the held screen", x.bestFilm(0), 1);
        Check.same("bestFilm of the other one", x.bestFilm(1), 0);
        x.move(0, 0, NONE);
        Check.same("the only print of film 1 is in use", x.bestFilm(1), NONE);
        Check.same("bestGain then", x.bestGain(0), 630);
    }

    private static void programIs(CinemaChain x, int... due) {
        for (int screen = 0; screen < due.length; screen++) {
            Check.same("bestFilm(" + screen + ")", x.bestFilm(screen), due[screen]);
        }
    }

    private static void promise19BestFilm() {
        CinemaChain x = Texts.twoHouses();
        programIs(x, 0, NONE, 1, NONE);
        Check.noSuch("bestFilm(4)", () -> x.bestFilm(4));
        Check.noSuch("bestFilm(-1)", () -> x.bestFilm(-1));
        Check.same("nothing is booked", x.size(6), 0);
        Check.same("nothing is recorded", x.undoCount(), 0);
    }

    private static void promise19Ties() {
        String house = "house 10 50;screen 0 10 1 0;screen 0 10 1 0;screen 0 10 1 0;";
        programIs(Check.loaded(house + "film 10 100 0 0;film 10 100 0 0;prints 1 0 1;prints 0 0 1;"), NONE, 0, 1);
        programIs(Check.loaded(house + "film 10 100 0 0;film 20 100 0 0;prints 1 0 3;prints 0 0 3;"), 0, 1, 1);
        programIs(Check.loaded(house + "film 0 100 0 0;film 9 100 0 0;prints 1 0 1;prints 0 0 3;"), NONE, NONE, 1);
        programIs(Check.loaded(house + "film 9 100 0 0;film 9 100 0 0;film 9 100 0 0;film 9 100 0 0;prints 3 0 1;"
                + "prints 2 0 1;prints 1 0 1;prints 0 0 1;"), 0, 1, 2);
        // The small screen must take the film with the small demand, although its number is the greater one.
        programIs(Check.loaded("house 10 50;screen 0 5 1 0;screen 0 10 1 0;film 10 100 0 0;film 5 100 0 0;"
                + "prints 0 0 1;prints 1 0 1;"), 1, 0);
    }

    private static void promise20BestMove() {
        CinemaChain x = Texts.twoHouses();
        // Film 0 from the depot: 280 more in house 0, but 560 in house 1; film 1 from house 0 to 1: 420.
        Check.same("bestMove", x.bestMove(), 2);
        x.setFee(999);
        Check.same("the fee does not matter", x.bestMove(), 2);
        Check.same("no print is moved", x.prints(0, NONE), 1);
        Check.same("no move is counted", x.size(5), 0);
        x.move(0, NONE, 1);
        Check.same("no move is better then", x.bestMove(), NONE);
        x.move(0, 1, NONE);
        x.move(0, NONE, 0);
        // House 0 needs one print of film 1 alone: 420 more against 280 more for film 0.
        Check.same("bestMove from house 0 to house 1", x.bestMove(), 112);
        CinemaChain y = Check.loaded("house 1 9;house 2 9;house 3 9;screen 2 9 1 0;film 9 9 0 0;film 9 9 0 0;"
                + "prints 1 1 1;");
        Check.same("all three numbers", y.bestMove(), 100 + 20 + 3);
        String screens = "house 2 9;house 3 9;screen 0 9 1 0;screen 0 9 1 0;screen 1 9 1 0;";
        Check.same("only one print is moved",
                Check.loaded(screens + "film 99 9 0 0;prints 0 depot 2;").bestMove(), 2);
        Check.same("a gain of 1", Check.loaded(screens.replace("house 3", "house 1") + "film 1 9 0 90;"
                + "prints 0 depot 1;prints 0 0 1;").bestMove(), 2);
        Check.same("another film cannot take its place", Check.loaded("house 9 9;screen 0 9 1 0;film 9 9 0 0;"
                + "film 1 9 0 0;prints 1 0 9;prints 1 depot 1;").bestMove(), NONE);
        Check.same("without films", Check.loaded("house 1 9;house 2 9;screen 0 9 1 0;").bestMove(), NONE);
        Check.same("without houses", Check.loaded("film 1 1 1 1;prints 0 depot 1;").bestMove(), NONE);
    }

    private static void promise20Ties() {
        String houses = "house 5 50;house 5 50;screen 1 9 1 0;screen 0 9 1 0;film 9 100 0 0;film 9 100 0 0;";
        Check.same("the lesser place", Check.loaded(houses + "prints 0 depot 2;").bestMove(), 1);
        Check.same("the lesser film", Check.loaded(houses + "prints 1 depot 1;prints 0 depot 1;").bestMove(), 1);
        Check.same("the lesser first place", Check.loaded(houses + "prints 0 depot 1;prints 0 0 2;").bestMove(), 2);
        Check.same("only one film", Check.loaded(houses + "prints 1 depot 1;").bestMove(), 101);
        Check.same("a move without a gain", Check.loaded(houses + "prints 0 0 1;").bestMove(), NONE);
    }

    private static void promise20Held() {
        CinemaChain x = Check.loaded("house 1 50;house 2 100;screen 0 9 1 0;screen 1 99 1 0;film 90 100 0 0;"
                + "prints 0 0 1;");
        x.book(0, 0);
        Check.same("a booked print cannot be moved", x.move(0, 0, 1), -3);
        Check.same("but the booking does not matter here", x.bestMove(), 12);
        x.close();
        Check.same("the screen is held", x.size(7), 1);
        Check.same("a held print stays", x.bestMove(), NONE);
    }

    private static void promise30Program() {
        CinemaChain x = Texts.twoHouses();
        Check.same("program(0)", x.program(0), 2);
        Check.same("the takings then", x.house(0, 3), 4900);
        Check.same("screen 0", x.screen(0, 4), 0);
        Check.same("screen 1", x.screen(1, 4), NONE);
        Check.same("screen 2", x.screen(2, 4), 1);
        Check.same("program(0) again", x.program(0), 0);
        Check.same("it is recorded", x.undoCount(), 2);
        Check.same("program(1)", x.program(1), 0);
        x.split(0, 0, 2, 6);
        x.book(1, 1);
        Check.same("a split week and a needless booking are different", x.program(0), 2);
        Check.same("the split week has gone", x.screen(0, 6), 0);
        Check.same("the second film has gone", x.screen(0, 5), NONE);
        x.book(3, 2);
        Check.same("a booking that gains nothing", x.program(1), 1);
        x.close();
        Check.same("held screens stay", x.program(0), 0);
        Check.same("held screens stay held", x.size(7), 2);
        Check.noSuch("program(2)", () -> x.program(2));
        Check.noSuch("program(-1)", () -> x.program(-1));
    }
}

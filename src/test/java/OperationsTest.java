/** Promises 25 to 29 and 31 to 33: bookings, moves of prints, the close of a week, settings. */
public final class OperationsTest {
    private static final int NONE = CinemaChain.NONE;

    public static void main(String[] args) {
        promise25Book();
        promise26Split();
        promise26Days();
        promise27Empty();
        promise28Move();
        promise28Refused();
        promise29Close();
        promise29Holds();
        promise29Last();
        promise31SetHoldover();
        promise32SetRent();
        promise33SetFee();
        Check.end();
    }

    private static void promise25Book() {
        CinemaChain x = Texts.twoHouses();
        Check.same("book(0, 0)", x.book(0, 0), 2800);
        Check.same("the same again", x.book(0, 0), 2800);
        Check.same("no second print", x.book(1, 0), -3);
        Check.same("nothing changes then", x.screen(1, 4), NONE);
        Check.same("nothing is recorded then", x.undoCount(), 2);
        Check.same("book(2, 1)", x.book(2, 1), 2100);
        Check.same("the earlier screen takes all", x.book(1, 1), 2100);
        Check.same("screen 2 has no visitors left", x.screen(2, 8), 0);
        Check.same("no third print", x.book(0, 1), -3);
        Check.same("another film instead", x.book(0, 2), 630);
        Check.same("the print is free again", x.book(2, 0), 2100);
        Check.same("no print in house 1", x.book(3, 0), -3);
        Check.noSuch("book(4, 0)", () -> x.book(4, 0));
        Check.noSuch("book(-1, 0)", () -> x.book(-1, 0));
        Check.noSuch("book(0, 3)", () -> x.book(0, 3));
        Check.noSuch("book(0, -1)", () -> x.book(0, -1));
        x.close();
        Check.same("a held screen", x.book(2, 1), -2);
        Check.same("held counts before prints", x.book(1, 0), -2);
        Check.noSuch("the exception counts before held", () -> x.book(2, 3));
        Check.same("the print of a held screen is in use", x.book(0, 0), -3);
    }

    private static void promise26Split() {
        CinemaChain x = Texts.twoHouses();
        Check.same("split(1, 1, 2, 3)", x.split(1, 1, 2, 3), 1260);
        Check.same("the same again", x.split(1, 1, 2, 3), 1260);
        Check.same("no print of the first film", x.split(3, 0, 2, 1), -3);
        Check.same("no print of the second film", x.split(3, 2, 0, 6), -3);
        Check.same("nothing changes then", x.screen(3, 4), NONE);
        Check.same("nothing is recorded then", x.undoCount(), 2);
        Check.illegal("both films the same", () -> x.split(1, 1, 1, 3));
        Check.illegal("day 0", () -> x.split(1, 1, 2, 0));
        Check.illegal("day 7", () -> x.split(1, 1, 2, 7));
        Check.illegal("day -1", () -> x.split(1, 1, 2, -1));
        Check.noSuch("no such screen", () -> x.split(4, 1, 1, 0));
        Check.noSuch("no such screen", () -> x.split(-1, 1, 2, 3));
        Check.noSuch("no such first film", () -> x.split(1, 3, 1, 3));
        Check.noSuch("no such first film", () -> x.split(1, -1, 1, 0));
        Check.noSuch("no such second film", () -> x.split(1, 1, 3, 3));
        Check.noSuch("both films the same, but not there", () -> x.split(1, 3, 3, 3));
        x.book(0, 0);
        x.close();
        Check.same("a held screen", x.split(0, 1, 2, 3), -2);
        Check.same("held counts before prints", x.split(0, 0, 1, 3), -2);
        Check.illegal("the exception counts before held", () -> x.split(0, 1, 1, 3));
    }

    private static void promise26Days() {
        // One print of each film in the house: two screens may swap them on the same day, not on others.
        CinemaChain x = Check.loaded("house 1 50;screen 0 9 1 0;screen 0 9 1 0;film 9 100 0 0;film 9 100 0 0;"
                + "prints 0 0 1;prints 1 0 1;");
        Check.same("split(0, 0, 1, 3)", x.split(0, 0, 1, 3), 63);
        Check.same("both days differ", x.split(1, 1, 0, 2), -3);
        Check.same("both days differ", x.split(1, 1, 0, 4), -3);
        Check.same("a swap on the same day", x.split(1, 1, 0, 3), 63);
        Check.same("its own print is free for it", x.split(0, 0, 1, 4), -3);
        Check.same("a whole week is too long", x.book(0, 0), -3);
        x.empty(1);
        Check.same("now it may change its day", x.split(0, 0, 1, 4), 63);
        Check.same("and turn the films round", x.split(0, 1, 0, 4), 63);
        Check.same("and show one for the whole week", x.book(0, 0), 63);
    }

    private static void promise27Empty() {
        CinemaChain x = Texts.bookedHouses();
        Check.same("empty(0)", x.empty(0), 0);
        Check.same("the screen is empty", x.screen(0, 4), NONE);
        Check.same("without takings", x.screen(0, 8), 0);
        Check.same("empty(0) again", x.empty(0), NONE);
        Check.same("it is recorded", x.undoCount(), 6);
        x.split(0, 2, 0, 3);
        Check.same("the first film of a split week", x.empty(0), 2);
        Check.same("no second film", x.screen(0, 5), NONE);
        Check.same("no day", x.screen(0, 6), 0);
        Check.same("empty(1)", x.empty(1), 1);
        Check.same("the visitors come to the other screen", x.screen(2, 8), 2100);
        x.close();
        int undos = x.undoCount();
        Check.same("a held screen", x.empty(2), -2);
        Check.same("it is not recorded", x.undoCount(), undos);
        Check.noSuch("empty(4)", () -> x.empty(4));
        Check.noSuch("empty(-1)", () -> x.empty(-1));
    }

    private static void promise28Move() {
        CinemaChain x = Texts.twoHouses();
        Check.same("from the depot", x.move(0, NONE, 0), 2);
        Check.same("the depot is empty", x.prints(0, NONE), 0);
        Check.same("to another house", x.move(0, 0, 1), 1);
        Check.same("one stays", x.prints(0, 0), 1);
        Check.same("to the depot", x.move(0, 0, NONE), 1);
        Check.same("three moves", x.size(5), 3);
        Check.same("they are recorded", x.undoCount(), 3);
        Check.noSuch("no such film", () -> x.move(3, 0, 0));
        Check.noSuch("no such film", () -> x.move(-1, 0, 1));
        Check.noSuch("no such place", () -> x.move(0, 2, 2));
        Check.noSuch("no such place", () -> x.move(0, -2, 0));
        Check.noSuch("no such place", () -> x.move(0, 0, 2));
        Check.noSuch("no such place", () -> x.move(0, 0, -2));
        Check.illegal("the same house", () -> x.move(0, 0, 0));
        Check.illegal("the depot twice", () -> x.move(0, NONE, NONE));
    }

    private static void promise28Refused() {
        CinemaChain x = Check.loaded("house 1 1;house 1 1;screen 0 9 1 0;screen 0 9 1 0;screen 1 9 1 0;"
                + "film 9 9 9 9;film 9 9 9 9;prints 0 0 2;prints 0 1 9;prints 0 depot 9;prints 1 0 1;prints 1 1 9;");
        Check.same("nine prints there", x.move(0, 0, 1), -4);
        Check.same("nine prints there", x.move(0, 1, NONE), -4);
        Check.same("no print here", x.move(1, NONE, 1), -2);
        x.split(0, 0, 1, 6);
        x.split(1, 1, 0, 6);
        Check.same("the bookings need one print", x.move(0, NONE, 0), 3);
        Check.same("one may go", x.move(0, 0, NONE), 9);
        x.book(1, 0);
        Check.same("both are needed on some days", x.move(0, 0, NONE), -3);
        Check.same("the other film on one day", x.move(1, 0, NONE), -3);
        Check.same("a refused move does not count", x.size(5), 2);
        Check.same("and is not recorded", x.undoCount(), 5);
        x.split(1, 1, 0, 6);
        Check.same("one may go again", x.move(0, 0, 1), -4);
        Check.same("bookings of another house do not matter", x.move(0, 1, 0), 3);
        x.move(0, 0, 1);
        x.split(0, 0, 1, 1);
        x.empty(1);
        x.split(1, 0, 1, 1);
        Check.same("no second print of the other film", x.screen(1, 4), NONE);
        x.move(1, 1, 0);
        x.split(1, 0, 1, 1);
        Check.same("both are needed on day 0 alone", x.move(0, 0, 1), -3);
    }

    private static void promise29Close() {
        CinemaChain x = Texts.bookedHouses();
        x.move(0, NONE, 1);
        x.move(0, 1, NONE);
        Check.same("close", x.close(), 5152);
        Check.same("takings", x.total(0), 5152);
        Check.same("shares", x.total(1), 2982);
        Check.same("rents", x.total(2), 157);
        Check.same("fees", x.total(3), 14);
        Check.same("the weeks", x.size(3), 1);
        Check.same("close with held screens", x.close(), 3430);
        Check.same("no fee without a move", x.total(3), 14);
        CinemaChain y = Texts.twoHouses();
        Check.same("close of an empty week", y.close(), 0);
        Check.same("rents of empty screens", y.total(2), 157);
    }

    private static void promise29Holds() {
        CinemaChain x = Texts.bookedHouses();
        x.split(1, 2, 1, 4);
        x.book(2, 1);
        x.setHoldover(0, 58);
        x.close();
        // From day 4 on all visitors of film 1 go to screen 1: 120 of 210 seats of screen 2 are less than 58 percent.
        Check.same("screen 0 is held", x.screen(0, 7), 1);
        Check.same("screen 1 is held with its second film", x.screen(1, 4), 1);
        Check.same("for the whole week", x.screen(1, 6), 0);
        Check.same("without a second film", x.screen(1, 5), NONE);
        Check.same("screen 1 is held", x.screen(1, 7), 1);
        Check.same("screen 2 is not held", x.screen(2, 7), 0);
        Check.same("screen 2 is empty", x.screen(2, 4), NONE);
        Check.same("screen 3 is empty", x.screen(3, 4), NONE);
        x.close();
        Check.same("25 of 40 hold screen 0 once more", x.screen(0, 7), 1);
        x.close();
        Check.same("12 of 40 do not", x.screen(0, 7), 0);
        x.split(0, 2, 1, 6);
        x.setHoldover(0, 5);
        x.close();
        Check.same("the film of day 6 alone is held", x.screen(0, 4), 1);
        x.undo();
        x.undo();
        x.undo();
        Check.same("it is empty then", x.screen(0, 4), NONE);
        Check.same("and can be booked", x.book(0, 2), 630);
    }

    private static void promise29Last() {
        CinemaChain x = Texts.twoHouses();
        for (int week = 0; week < 60; week++) {
            Check.same("close", x.close(), 0);
        }
        x.saveSnapshot();
        x.undo();
        x.setFee(3);
        Check.same("the 60th week", x.close(), 0);
        int undos = x.undoCount();
        Check.same("the 61st week", x.close(), -2);
        Check.same("it is not recorded", x.undoCount(), undos);
        Check.same("60 weeks are closed", x.size(3), 60);
        Check.same("the rents of 60 weeks", x.total(2), 60 * 157);
        x.undo();
        Check.same("59 weeks", x.size(3), 59);
    }

    private static void promise31SetHoldover() {
        CinemaChain x = Texts.twoHouses();
        Check.same("setHoldover(1, 1)", x.setHoldover(1, 1), 100);
        Check.same("setHoldover(1, 100)", x.setHoldover(1, 100), 1);
        Check.same("setHoldover(0, 50)", x.setHoldover(0, 50), 50);
        Check.same("three are recorded", x.undoCount(), 3);
        Check.same("the new percentage", x.house(1, 1), 100);
        Check.illegal("setHoldover(0, 0)", () -> x.setHoldover(0, 0));
        Check.illegal("setHoldover(0, 101)", () -> x.setHoldover(0, 101));
        Check.illegal("setHoldover(0, -1)", () -> x.setHoldover(0, -1));
        Check.noSuch("setHoldover(2, 0)", () -> x.setHoldover(2, 0));
        Check.noSuch("setHoldover(-1, 1)", () -> x.setHoldover(-1, 1));
        Check.same("still three", x.undoCount(), 3);
    }

    private static void promise32SetRent() {
        CinemaChain x = Texts.twoHouses();
        Check.same("setRent(0, 9999)", x.setRent(0, 9999), 100);
        Check.same("setRent(0, 0)", x.setRent(0, 0), 9999);
        Check.same("setRent(0, 5)", x.setRent(0, 5), 0);
        Check.same("the new rent", x.screen(0, 3), 5);
        Check.same("the net", x.house(0, 5), -55);
        Check.illegal("setRent(0, -1)", () -> x.setRent(0, -1));
        Check.illegal("setRent(0, 10000)", () -> x.setRent(0, 10000));
        Check.noSuch("setRent(4, -1)", () -> x.setRent(4, -1));
        Check.noSuch("setRent(-1, 1)", () -> x.setRent(-1, 1));
        Check.same("three are recorded", x.undoCount(), 3);
    }

    private static void promise33SetFee() {
        CinemaChain x = Texts.twoHouses();
        x.move(0, NONE, 1);
        Check.same("setFee(999)", x.setFee(999), 7);
        Check.same("setFee(0)", x.setFee(0), 999);
        Check.same("setFee(20)", x.setFee(20), 0);
        Check.same("the new fee", x.size(4), 20);
        Check.illegal("setFee(-1)", () -> x.setFee(-1));
        Check.illegal("setFee(1000)", () -> x.setFee(1000));
        Check.same("four are recorded", x.undoCount(), 4);
        x.close();
        Check.same("it holds for the earlier move", x.closed(0, 3), 20);
        x.setFee(30);
        Check.same("closed weeks keep theirs", x.total(3), 20);
    }
}

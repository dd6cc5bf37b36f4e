/** Boundary cases of the operations, undo and snapshots: promises 25 to 33 and 36 to 39, sentence by sentence. */
final class OperationBoundaries {
    private static final int NONE = CinemaChain.NONE;
    private static final String OPERATIONS = "Operations";
    private static final String NO_HOUSE = "Throws `NoSuchElementException` if there is no such house";
    private static final String NO_SCREEN = "Throws `NoSuchElementException` if there is no such screen";
    private static final String HELD = "-2 if it is held;";
    private static final String NO_PRINTS = "-3 if there are not enough prints in the house for this booking and those of "
            + "the other screens (checked in this order).";

    private OperationBoundaries() {
    }

    static void all() {
        recorded();
        recordedWithoutAChange();
        refusedCalls();
        thrownCalls();
        exceptionsFirst();
        tenOperations();
        undoneOperations();
        promise25();
        promise26();
        promise26Thrown();
        promise27();
        promise28();
        promise28Order();
        promise29();
        promise30();
        promise31();
        promise32();
        promise33();
        promises36And37();
        promise38();
        promise39();
    }

    interface Call {
        void on(CinemaChain x);
    }

    /** Screens 0 and 1 are held with films 0 and 1, screen 3 shows film 2; film 0 has 9 prints in the depot. */
    private static CinemaChain heldHouses() {
        CinemaChain x = Check.loaded(Texts.TWO_HOUSES + "prints 0 depot 9;prints 2 1 9;");
        x.book(0, 0);
        x.book(1, 1);
        x.close();
        x.book(3, 2);
        x.move(2, 1, NONE);
        return x;
    }

    // ---- operations ----

    private static void recordsOne(String what, CinemaChain x, Call call) {
        int undos = x.undoCount();
        call.on(x);
        Check.same("undoCount behind " + what, x.undoCount(), undos + 1);
    }

    private static void recordsNone(String what, CinemaChain x, Call call) {
        int undos = x.undoCount();
        call.on(x);
        Check.same("undoCount behind " + what, x.undoCount(), undos);
    }

    private static void recorded() {
        Doc.says(OPERATIONS, "book, split, empty, move, close, program, setHoldover, setRent and setFee are operations.");
        CinemaChain x = Texts.twoHouses();
        recordsOne("book", x, y -> y.book(0, 0));
        recordsOne("split", x, y -> y.split(1, 1, 2, 3));
        recordsOne("empty", x, y -> y.empty(0));
        recordsOne("move", x, y -> y.move(0, NONE, 1));
        recordsOne("close", x, CinemaChain::close);
        recordsOne("program", x, y -> y.program(0));
        recordsOne("setHoldover", x, y -> y.setHoldover(0, 3));
        recordsOne("setRent", x, y -> y.setRent(0, 3));
        recordsOne("setFee", x, y -> y.setFee(3));
        recordsNone("feed", x, y -> y.feed(0, 0, 0, 0, 0));
        recordsNone("query", x, y -> y.query(0));
        recordsNone("format", x, y -> y.format(0));
        recordsNone("forecast", x, y -> y.forecast(0, 0));
        recordsNone("bestFilm", x, y -> y.bestFilm(0));
        recordsNone("bestMove", x, CinemaChain::bestMove);
        recordsNone("saveSnapshot", x, CinemaChain::saveSnapshot);
    }

    private static void recordedWithoutAChange() {
        Doc.says(OPERATIONS, "Every successful call of an operation is recorded, even if it changes nothing.");
        CinemaChain x = Texts.twoHouses();
        x.book(0, 0);
        x.split(1, 1, 2, 3);
        recordsOne("the same book", x, y -> y.book(0, 0));
        recordsOne("the same split", x, y -> y.split(1, 1, 2, 3));
        recordsOne("empty of an empty screen", x, y -> y.empty(3));
        recordsOne("program without a change", x, y -> y.program(1));
        recordsOne("the same percentage", x, y -> y.setHoldover(0, 50));
        recordsOne("the same rent", x, y -> y.setRent(0, 100));
        recordsOne("the same fee", x, y -> y.setFee(7));
        Check.same("undo of it", x.undo(), 8);
        Check.same("the fee", x.size(4), 7);
        CinemaChain z = new CinemaChain();
        recordsOne("close of an empty chain", z, CinemaChain::close);
        recordsOne("the fee 0 of a new object", z, y -> y.setFee(0));
    }

    private interface Answer {
        int of(CinemaChain x);
    }

    private static void refuses(String what, int due, Answer call) {
        CinemaChain x = heldHouses();
        x.format(0);
        String before = Answers.andHistoryOf(x);
        Check.same(what, call.of(x), due);
        Check.sameText("everything behind " + what, Answers.andHistoryOf(x), before);
    }

    private static final String CHANGES_NOTHING = "A call that returns a negative error code or throws an exception changes "
            + "nothing;";

    private static void refusedCalls() {
        Doc.says(OPERATIONS, CHANGES_NOTHING);
        refuses("book of a held screen", -2, x -> x.book(0, 0));
        refuses("book without a print", -3, x -> x.book(2, 0));
        refuses("split of a held screen", -2, x -> x.split(0, 0, 1, 3));
        refuses("split without a print of the first film", -3, x -> x.split(2, 0, 1, 3));
        refuses("split without a print of the second film", -3, x -> x.split(2, 1, 0, 3));
        refuses("empty of a held screen", -2, x -> x.empty(0));
        refuses("move without a print", -2, x -> x.move(0, 1, NONE));
        refuses("move of a print in use", -3, x -> x.move(0, 0, 1));
        CinemaChain y = heldHouses();
        y.move(2, NONE, 1);
        String before = Answers.andHistoryOf(y);
        Check.same("move to nine prints", y.move(2, 0, 1), -4);
        Check.sameText("everything behind it", Answers.andHistoryOf(y), before);
        CinemaChain z = new CinemaChain();
        for (int week = 0; week < 60; week++) {
            z.close();
        }
        String last = Answers.andHistoryOf(z);
        Check.same("close of the 61st week", z.close(), -2);
        Check.sameText("everything behind it", Answers.andHistoryOf(z), last);
    }

    private static void throwsNoSuch(String what, Call call) {
        CinemaChain x = heldHouses();
        x.format(0);
        String before = Answers.andHistoryOf(x);
        Check.noSuch(what, () -> call.on(x));
        Check.sameText("everything behind " + what, Answers.andHistoryOf(x), before);
    }

    private static void throwsIllegal(String what, Call call) {
        CinemaChain x = heldHouses();
        x.format(0);
        String before = Answers.andHistoryOf(x);
        Check.illegal(what, () -> call.on(x));
        Check.sameText("everything behind " + what, Answers.andHistoryOf(x), before);
    }

    private static void thrownCalls() {
        Doc.says(OPERATIONS, CHANGES_NOTHING);
        throwsNoSuch("book", x -> x.book(2, 3));
        throwsNoSuch("split", x -> x.split(2, 1, 3, 3));
        throwsIllegal("split", x -> x.split(2, 1, 2, 7));
        throwsNoSuch("empty", x -> x.empty(4));
        throwsNoSuch("move", x -> x.move(0, NONE, 2));
        throwsIllegal("move", x -> x.move(0, NONE, NONE));
        throwsNoSuch("program", x -> x.program(2));
        throwsNoSuch("setHoldover", x -> x.setHoldover(2, 3));
        throwsIllegal("setHoldover", x -> x.setHoldover(0, 101));
        throwsNoSuch("setRent", x -> x.setRent(4, 3));
        throwsIllegal("setRent", x -> x.setRent(0, 10000));
        throwsIllegal("setFee", x -> x.setFee(1000));
        throwsNoSuch("format", x -> x.format(4));
        throwsIllegal("load", x -> x.load(1));
        throwsIllegal("query", x -> x.query(1));
    }

    private static void exceptionsFirst() {
        Doc.says(OPERATIONS, "the exceptions are checked before the error codes.");
        CinemaChain x = heldHouses();
        Check.noSuch("a held screen, no such film", () -> x.book(0, 3));
        Check.noSuch("a held screen, no such film", () -> x.split(0, 1, 3, 3));
        Check.illegal("a held screen, the same film", () -> x.split(0, 1, 1, 3));
        Check.illegal("a held screen, no such day", () -> x.split(0, 1, 2, 7));
        Check.illegal("no print, the same film", () -> x.split(2, 0, 0, 3));
        Check.noSuch("no print, no such place", () -> x.move(1, NONE, 2));
        Check.illegal("no print, the same place", () -> x.move(1, NONE, NONE));
        Check.illegal("a print in use, the same place", () -> x.move(0, 0, 0));
        Check.illegal("nine prints, the same place", () -> x.move(0, NONE, NONE));
    }

    private static void tenOperations() {
        Doc.says(OPERATIONS, "The 10 most recent operations can be undone, the most recent one first.");
        for (int operations = 9; operations <= 12; operations++) {
            CinemaChain x = new CinemaChain();
            for (int fee = 1; fee <= operations; fee++) {
                x.setFee(fee);
            }
            int undos = Math.min(operations, 10);
            for (int left = undos - 1; left >= 0; left--) {
                Check.same("undo of " + operations, x.undo(), left);
                Check.same("the fee then", x.size(4), operations - undos + left);
            }
            Check.same("no further undo", x.undo(), NONE);
            Check.same("the fee stays", x.size(4), operations - undos);
        }
    }

    private static void undoes(String what, Call before, Call operation) {
        CinemaChain x = Texts.twoHouses();
        before.on(x);
        String old = Answers.of(x);
        operation.on(x);
        Check.no(what + " changes nothing", Answers.of(x).equals(old));
        CinemaChain y = Texts.twoHouses();
        before.on(y);
        operation.on(y);
        y.undo();
        Check.sameText("everything behind undo of " + what, Answers.of(y), old);
    }

    private static void bookAll(CinemaChain x) {
        x.split(0, 0, 1, 6);
        x.book(1, 1);
        x.book(2, 2);
        x.move(0, NONE, 1);
        x.book(3, 0);
    }

    private static void bookAndClose(CinemaChain x) {
        bookAll(x);
        x.close();
        x.move(1, 0, 1);
    }

    private static void undoneOperations() {
        Doc.says(OPERATIONS, "Undoing restores everything that the operation changed.");
        undoes("book", x -> { }, x -> x.book(0, 0));
        undoes("book over a split week", OperationBoundaries::bookAll, x -> x.book(0, 0));
        undoes("split", x -> { }, x -> x.split(1, 1, 2, 3));
        undoes("split over another one", OperationBoundaries::bookAll, x -> x.split(0, 0, 1, 1));
        undoes("empty", OperationBoundaries::bookAll, x -> x.empty(0));
        undoes("move", OperationBoundaries::bookAll, x -> x.move(2, 1, NONE));
        undoes("close", OperationBoundaries::bookAll, CinemaChain::close);
        undoes("a second close", OperationBoundaries::bookAndClose, CinemaChain::close);
        undoes("close of an empty week", x -> { }, CinemaChain::close);
        undoes("program", OperationBoundaries::bookAll, x -> x.program(0));
        undoes("setHoldover", OperationBoundaries::bookAll, x -> x.setHoldover(0, 51));
        undoes("setRent", OperationBoundaries::bookAll, x -> x.setRent(2, 1));
        undoes("setFee", OperationBoundaries::bookAll, x -> x.setFee(8));
    }

    // ---- bookings ----

    private static void promise25() {
        CinemaChain x = Texts.twoHouses();
        Doc.says(25, "Operation: books a screen with a film for the whole week.");
        x.split(1, 2, 1, 6);
        x.book(1, 1);
        Check.same("the film", x.screen(1, 4), 1);
        Check.same("no second film", x.screen(1, 5), NONE);
        Check.same("no day", x.screen(1, 6), 0);
        Doc.says(25, "Returns the takings of the screen in the present week then;");
        Check.same("behind a screen that takes all", x.book(2, 1), 0);
        Check.same("before all others", x.book(0, 0), 2800);
        Doc.says(25, NO_PRINTS);
        Check.same("the only print is in use", x.book(1, 0), -3);
        Check.same("its own print is free", x.book(0, 0), 2800);
        Check.same("both prints are in use", x.book(0, 1), -3);
        Check.same("no print in the house", x.book(3, 1), -3);
        Check.same("the only print of the house", x.book(3, 2), 252);
        x.split(2, 1, 2, 6);
        Check.same("in use on one day", x.book(0, 2), -3);
        Doc.says(25, HELD);
        x.close();
        Check.same("with its film", x.book(0, 0), -2);
        Check.same("held counts before prints", x.book(1, 0), -2);
        Doc.says(25, NO_SCREEN + " or film");
        Check.noSuchOutside("screen", 0, 3, n -> x.book(n, 2));
        Check.noSuchOutside("film", 0, 2, n -> x.book(3, n));
        Check.noSuch("neither", () -> x.book(-1, -1));
    }

    private static void promise26() {
        CinemaChain x = Texts.twoHouses();
        Doc.says(26, "Operation: books a screen for a split week.");
        x.book(1, 2);
        x.split(1, 1, 2, 1);
        Check.same("the first film", x.screen(1, 4), 1);
        Check.same("the second film", x.screen(1, 5), 2);
        Check.same("the day", x.screen(1, 6), 1);
        Doc.says(26, "Returns the takings of the screen in the present week then;");
        Check.same("30 on one day, 9 on six", x.split(1, 1, 2, 1), (30 + 54) * 10);
        Check.same("30 on six days, 9 on one", x.split(1, 1, 2, 6), (180 + 9) * 10);
        Doc.says(26, NO_PRINTS);
        Check.same("the second film is in use on day 6", x.split(0, 1, 2, 6), -3);
        Check.same("the first film may be shown before it", x.split(0, 2, 1, 6), (54 + 30) * 10);
        Check.same("the second film has two prints", x.split(2, 1, 0, 6), (0 + 30) * 10);
        Check.same("but not three", x.split(2, 0, 1, 6), (180 + 0) * 10);
        Check.same("no print in the house for the second film", x.split(3, 2, 0, 6), -3);
        Check.same("no print in the house for the first film", x.split(3, 0, 2, 1), -3);
        Check.same("whole weeks count, too", x.book(3, 2), 252);
        x.book(2, 1);
        Check.same("two whole weeks or parts", x.split(0, 1, 0, 1), -3);
        Doc.says(26, HELD);
        x.empty(0);
        x.empty(1);
        x.close();
        x.book(0, 0);
        Check.same("held", x.split(2, 1, 2, 3), -2);
        Check.same("held counts before prints", x.split(2, 0, 1, 3), -2);
    }

    private static void promise26Thrown() {
        CinemaChain x = Texts.twoHouses();
        Doc.says(26, NO_SCREEN + " or one of the films does not exist (checked first)");
        Check.noSuchOutside("screen", 0, 2, n -> x.split(n == 3 ? 4 : n, 1, 2, 3));
        Check.noSuchOutside("first film", 0, 1, n -> x.split(1, n == 2 ? 3 : n, 2, 3));
        Check.noSuchOutside("second film", 1, 2, n -> x.split(1, 0, n == 0 ? -1 : n, 3));
        Check.noSuch("the same films, not there", () -> x.split(1, 3, 3, 3));
        Check.noSuch("no screen and no day", () -> x.split(4, 1, 2, 0));
        Check.noSuch("no film and no day", () -> x.split(1, 1, 3, 7));
        Check.noSuch("no screen and the same films", () -> x.split(-1, 1, 1, 3));
        Doc.says(26, "- `day`: 1 to 6");
        Check.illegalOutside("day", 1, 6, n -> x.split(1, 1, 2, n));
        Doc.says(26, "Throws `IllegalArgumentException` if both films are the same, or day is out of range");
        for (int film = 0; film < 3; film++) {
            int same = film;
            Check.illegal("film " + film + " twice", () -> x.split(1, same, same, 3));
        }
        Check.illegal("both", () -> x.split(1, 1, 1, 0));
    }

    private static void promise27() {
        Doc.says(27, "Operation: empties a screen.");
        CinemaChain y = Texts.twoHouses();
        y.split(0, 2, 0, 3);
        y.empty(0);
        for (int day = 0; day < 7; day++) {
            Check.same("day " + day, y.shown(0, day), NONE);
        }
        CinemaChain x = Texts.bookedHouses();
        x.split(0, 2, 0, 3);
        Doc.says(27, "Returns the film that was its only or first one, or NONE if it was empty (that is no error: the call is "
                + "recorded);");
        Check.same("the first one", x.empty(0), 2);
        Check.same("no film then", x.screen(0, 4), NONE);
        Check.same("no second film then", x.screen(0, 5), NONE);
        Check.same("no day then", x.screen(0, 6), 0);
        Check.same("the only one", x.empty(1), 1);
        x.book(0, 0);
        Check.same("the only one, film 0", x.empty(0), 0);
        int undos = x.undoCount();
        Check.same("an empty screen", x.empty(0), NONE);
        Check.same("it is recorded", x.undoCount(), undos + 1);
        Check.same("and can be undone", x.undo(), undos);
        Check.same("the screen is still empty", x.screen(0, 4), NONE);
        Doc.says(27, "-2 if it is held.");
        x.close();
        Check.same("a held screen", x.empty(2), -2);
        Check.same("a screen that was not held", x.empty(3), NONE);
        Doc.says(27, NO_SCREEN);
        Check.noSuchOutside("screen", 0, 3, x::empty);
    }

    // ---- moves ----

    private static void promise28() {
        CinemaChain x = Check.loaded("house 1 1;house 1 1;screen 0 9 1 0;screen 0 9 1 0;film 9 9 0 0;film 9 9 0 0;"
                + "prints 0 0 2;prints 0 depot 8;prints 1 0 1;prints 1 depot 1;prints 1 1 9;");
        Doc.says(28, "Operation: moves a print of a film from a place to another one (NONE for the depot).");
        x.move(1, NONE, 0);
        Check.same("one less in the depot", x.prints(1, NONE), 0);
        Check.same("one more in the house", x.prints(1, 0), 2);
        x.move(1, 0, NONE);
        Check.same("one more in the depot", x.prints(1, NONE), 1);
        Check.same("one less in the house", x.prints(1, 0), 1);
        Check.same("two moves", x.size(5), 2);
        Doc.says(28, "Returns the number of prints at the new place then;");
        Check.same("to a place without one", x.move(0, 0, 1), 1);
        Check.same("the ninth one in the depot", x.move(0, 1, NONE), 9);
        Check.same("from the depot", x.move(0, NONE, 0), 2);
        Doc.says(28, "-2 if there is no print at the first place;");
        Check.same("a house without a print", x.move(0, 1, 0), -2);
        x.move(1, NONE, 0);
        Check.same("the depot without a print", x.move(1, NONE, 0), -2);
        Doc.says(28, "-3 if the bookings of the first place need all prints there;");
        x.split(0, 0, 1, 6);
        Check.same("one of two is needed", x.move(0, 0, 1), 1);
        Check.same("one of one is needed", x.move(0, 0, 1), -3);
        Check.same("the second film on day 6", x.move(1, 0, NONE), 1);
        Check.same("one of one on day 6", x.move(1, 0, NONE), -3);
        x.move(0, 1, 0);
        x.move(1, NONE, 0);
        x.split(1, 0, 1, 1);
        Check.same("day 0 needs two of two", x.move(0, 0, 1), -3);
        x.split(1, 1, 0, 6);
        Check.same("each day needs one of two", x.move(0, 0, 1), 1);
        x.empty(0);
        x.empty(1);
        Check.same("no booking needs the last one", x.move(0, 0, 1), 2);
        Check.same("bookings never need those of the depot", x.move(0, NONE, 0), 1);
        Doc.says(28, "-4 if there are 9 prints at the new place (checked in this order).");
        Check.same("nine in the other house", x.move(1, 0, 1), -4);
        Check.same("seven in the depot", x.move(0, 0, NONE), 8);
        Check.same("eight in the depot", x.move(0, 1, NONE), 9);
        Check.same("nine in the depot", x.move(0, 1, NONE), -4);
    }

    private static void promise28Order() {
        CinemaChain x = Check.loaded("house 1 1;house 1 1;screen 0 9 1 0;film 9 9 0 0;film 9 9 0 0;prints 0 0 1;"
                + "prints 0 1 9;prints 1 1 9;");
        Doc.says(28, "-4 if there are 9 prints at the new place (checked in this order).");
        x.book(0, 0);
        Check.same("all are needed, nine there", x.move(0, 0, 1), -3);
        Check.same("none here, nine there", x.move(1, 0, 1), -2);
        x.empty(0);
        Check.same("nine there", x.move(0, 0, 1), -4);
        Doc.says(28, "Throws `NoSuchElementException` if there is no such film or place (checked first)");
        Check.noSuchOutside("film", 0, 1, n -> x.move(n, NONE, 0));
        Check.noSuchOutside("first place", NONE, 0, n -> x.move(0, n == 1 ? 2 : n, 1));
        Check.noSuchOutside("second place", NONE, 0, n -> x.move(0, 1, n == 1 ? 2 : n));
        Check.noSuch("no place twice", () -> x.move(0, 2, 2));
        Check.noSuch("no film, the same place", () -> x.move(2, 0, 0));
        Doc.says(28, "Throws `IllegalArgumentException` if both places are the same");
        for (int place = NONE; place < 2; place++) {
            int same = place;
            Check.illegal("place " + place + " twice", () -> x.move(1, same, same));
        }
    }

    // ---- close, program, settings ----

    private static void promise29() {
        CinemaChain x = Check.loaded("house 1 1;screen 0 9 1 0;screen 0 9 1 0;film 9 100 0 0;film 5 100 0 0;prints 0 0 1;"
                + "prints 1 0 1;");
        Doc.says(29, "Operation: closes the present week.");
        Check.same("an empty week", x.close(), 0);
        Check.same("it is closed", x.size(3), 1);
        Doc.says(29, "Returns the takings of all screens in it;");
        x.book(0, 0);
        x.split(1, 1, 0, 6);
        Check.same("the screens cannot share the print", x.screen(1, 4), NONE);
        x.book(1, 1);
        Check.same("two screens", x.close(), 63 + 35);
        Doc.says(29, "-2 if 60 weeks are closed.");
        for (int week = 2; week < 60; week++) {
            Check.same("a week with held screens", x.close(), 63 + 35);
        }
        Check.same("60 weeks", x.size(3), 60);
        Check.same("the 61st week", x.close(), -2);
        Check.same("still 60 weeks", x.size(3), 60);
        x.undo();
        Check.same("59 weeks", x.size(3), 59);
        Check.same("the 60th week again", x.close(), 98);
        Check.same("the 61st week again", x.close(), -2);
        Check.same("the takings of all", x.total(0), 59 * 98);
    }

    private static void promise30() {
        CinemaChain x = Texts.twoHouses();
        Doc.says(30, "Operation: gives a house its best program.");
        Check.same("two screens of house 0", x.program(0), 2);
        int[] films = {0, NONE, 1, NONE};
        for (int screen = 0; screen < 4; screen++) {
            Check.same("the film of screen " + screen, x.screen(screen, 4), films[screen]);
        }
        Check.same("the takings of the house", x.house(0, 3), 4900);
        CinemaChain y = Check.loaded("house 1 1;" + "screen 0 1 1 0;".repeat(4) + "film 3 1 0 0;prints 0 0 9;");
        Check.same("a house with four screens", y.program(0), 3);
        Check.same("its first screen", y.screen(0, 4), NONE);
        Check.same("its last screen", y.screen(3, 4), 0);
        Doc.says(30, "Returns the number of screens whose booking is different then.");
        Check.same("none", x.program(0), 0);
        x.split(0, 0, 2, 6);
        Check.same("the second film alone", x.program(0), 1);
        Check.same("no second film then", x.screen(0, 5), NONE);
        Check.same("no day then", x.screen(0, 6), 0);
        x.book(1, 1);
        Check.same("a screen that must be empty", x.program(0), 1);
        x.book(3, 2);
        Check.same("other houses stay", x.program(0), 0);
        Check.same("the booking there", x.screen(3, 4), 2);
        x.close();
        Check.same("held screens", x.size(7), 2);
        Check.same("they are not different", x.program(0), 0);
        Check.same("they stay held", x.size(7), 2);
        Check.same("a house without screens", Check.loaded("house 1 1;").program(0), 0);
        Doc.says(30, NO_HOUSE);
        Check.noSuchOutside("house", 0, 1, x::program);
    }

    private static void promise31() {
        CinemaChain x = Texts.twoHouses();
        Doc.says(31, "Operation: sets the holdover percentage of a house.");
        x.setHoldover(0, 51);
        Check.same("house 0", x.house(0, 1), 51);
        Check.same("the other house", x.house(1, 1), 100);
        Doc.says(31, "Returns the percentage before.");
        Check.same("setHoldover(0, 1)", x.setHoldover(0, 1), 51);
        Check.same("setHoldover(0, 100)", x.setHoldover(0, 100), 1);
        Check.same("the same again", x.setHoldover(0, 100), 100);
        Doc.says(31, NO_HOUSE + " (checked first)");
        Check.noSuchOutside("house", 0, 1, n -> x.setHoldover(n, 50));
        Check.noSuch("no house and no percentage", () -> x.setHoldover(2, 0));
        Doc.says(31, "Throws `IllegalArgumentException` if percentage is not 1 to 100");
        Check.illegalOutside("percentage", 1, 100, n -> x.setHoldover(1, n));
    }

    private static void promise32() {
        CinemaChain x = Texts.twoHouses();
        Doc.says(32, "Operation: sets the rent of a screen.");
        x.setRent(0, 101);
        Check.same("screen 0", x.screen(0, 3), 101);
        Check.same("another screen", x.screen(1, 3), 50);
        Doc.says(32, "Returns the rent before.");
        Check.same("setRent(0, 0)", x.setRent(0, 0), 101);
        Check.same("setRent(0, 9999)", x.setRent(0, 9999), 0);
        Check.same("the same again", x.setRent(0, 9999), 9999);
        Doc.says(32, NO_SCREEN + " (checked first)");
        Check.noSuchOutside("screen", 0, 3, n -> x.setRent(n, 50));
        Check.noSuch("no screen and no rent", () -> x.setRent(4, -1));
        Doc.says(32, "Throws `IllegalArgumentException` if rent is not 0 to 9999");
        Check.illegalOutside("rent", 0, 9999, n -> x.setRent(1, n));
    }

    private static void promise33() {
        CinemaChain x = Texts.twoHouses();
        Doc.says(33, "It holds for all moves of the present week, also for earlier ones.");
        x.move(0, NONE, 1);
        x.close();
        x.move(0, 1, NONE);
        x.setFee(100);
        x.move(0, NONE, 1);
        x.close();
        Check.same("an earlier and a later move", x.closed(0, 3), 200);
        Check.same("not the move of the week before", x.closed(1, 3), 7);
        Check.same("the sum", x.total(3), 207);
        Doc.says(33, "Operation: sets the fee.");
        x.setFee(8);
        Check.same("the fee", x.size(4), 8);
        Check.same("closed weeks keep theirs", x.total(3), 207);
        Doc.says(33, "Returns the fee before.");
        Check.same("setFee(0)", x.setFee(0), 8);
        Check.same("setFee(999)", x.setFee(999), 0);
        Check.same("the same again", x.setFee(999), 999);
        Doc.says(33, "Throws `IllegalArgumentException` if fee is not 0 to 999");
        Check.illegalOutside("fee", 0, 999, x::setFee);
    }

    // ---- undo and snapshots ----

    private static void promises36And37() {
        CinemaChain x = Texts.twoHouses();
        Doc.says(36, "Returns the number of operations that can be undone.");
        Check.same("behind load", x.undoCount(), 0);
        for (int operations = 1; operations <= 12; operations++) {
            x.setFee(operations);
            Check.same("behind " + operations, x.undoCount(), Math.min(operations, 10));
        }
        Doc.says(37, "Undoes the most recent operation.");
        x.undo();
        Check.same("the fee before", x.size(4), 11);
        Doc.says(37, "Returns the number of operations that can still be undone;");
        Check.same("eight", x.undo(), 8);
        x.setFee(500);
        Check.same("one more is recorded", x.undoCount(), 9);
        for (int left = 8; left >= 0; left--) {
            Check.same("undo", x.undo(), left);
        }
        Check.same("the fee before all", x.size(4), 2);
        Doc.says(37, "NONE if there was nothing to undo.");
        Check.same("undo", x.undo(), NONE);
        Check.same("nothing changes", x.size(4), 2);
        Check.same("a new object", new CinemaChain().undo(), NONE);
        Doc.says(36, "Returns the number of operations that can be undone.");
        Check.same("behind an undo that does nothing", x.undoCount(), 0);
        x.setFee(5);
        Check.same("behind a new one", x.undoCount(), 1);
    }

    private static void promise38() {
        Doc.says(38, "Saves a snapshot of everything that undoing restores.");
        CinemaChain x = Texts.twoHouses();
        bookAndClose(x);
        x.setHoldover(0, 60);
        x.setRent(0, 60);
        String first = Answers.of(x);
        x.saveSnapshot();
        x.program(0);
        x.move(0, 1, NONE);
        x.close();
        x.setHoldover(0, 61);
        x.setRent(0, 61);
        x.setFee(61);
        x.restoreSnapshot();
        Check.sameText("everything as it was", Answers.of(x), first);
        Doc.says(38, "It replaces an earlier snapshot.");
        CinemaChain y = new CinemaChain();
        y.saveSnapshot();
        y.setFee(5);
        y.saveSnapshot();
        y.setFee(6);
        y.restoreSnapshot();
        Check.same("the later one", y.size(4), 5);
        y.restoreSnapshot();
        Check.same("the earlier one has gone", y.size(4), 5);
        Check.same("undo does not bring it back", y.undo(), NONE);
    }

    private static void promise39() {
        CinemaChain x = new CinemaChain();
        Doc.says(39, "false if there is no snapshot (nothing changes).");
        x.setFee(3);
        Check.no("restoreSnapshot", x.restoreSnapshot());
        Check.same("the fee", x.size(4), 3);
        Check.same("the undo history", x.undoCount(), 1);
        Check.same("undo", x.undo(), 0);
        Doc.says(39, "Returns true;");
        x.saveSnapshot();
        Check.yes("restoreSnapshot without a change", x.restoreSnapshot());
        Doc.says(39, "The snapshot is kept.");
        x.setFee(4);
        Check.yes("restoreSnapshot", x.restoreSnapshot());
        Check.same("the fee", x.size(4), 0);
        x.setFee(5);
        x.close();
        Check.yes("restoreSnapshot once more", x.restoreSnapshot());
        Check.same("the fee", x.size(4), 0);
        Check.same("the weeks", x.size(3), 0);
        Doc.says(39, "Restores the snapshot and clears the undo history.");
        for (int fee = 1; fee < 12; fee++) {
            x.setFee(fee);
        }
        Check.yes("restoreSnapshot", x.restoreSnapshot());
        Check.same("undoCount", x.undoCount(), 0);
        Check.same("undo", x.undo(), NONE);
        Check.same("the fee stays", x.size(4), 0);
        x.setFee(7);
        Check.same("undo of a later operation", x.undo(), 0);
        Check.same("the fee of the snapshot", x.size(4), 0);
    }
}

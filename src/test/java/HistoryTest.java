/** Promises 34 to 39 and the constants: formatted screens, undo, snapshots. */
public final class HistoryTest {
    private static final int NONE = CinemaChain.NONE;

    public static void main(String[] args) {
        constants();
        promise34Format();
        promise35FormattedByte();
        promise36UndoCount();
        promise37Undo();
        promise37Age();
        promise37Ten();
        promise37Closes();
        promise38SaveSnapshot();
        promise39RestoreSnapshot();
        Check.end();
    }

    private static void constants() {
        Check.same("NONE", CinemaChain.NONE, -1);
        Check.same("HIDDEN", CinemaChain.HIDDEN, -1000000000);
    }

    private static void promise34Format() {
        CinemaChain x = Texts.bookedHouses();
        x.split(1, 1, 2, 5);
        x.empty(2);
        Check.sameText("a whole week", Check.formatted(x, 0), "s0: 0 0 0 0 0 0 0");
        Check.sameText("a split week", Check.formatted(x, 1), "s1: 1 1 1 1 1 2 2");
        Check.sameText("an empty screen", Check.formatted(x, 2), "s2: - - - - - - -");
        x.close();
        Check.sameText("a held screen", Check.formatted(x, 0), "s0: 0 0 0 0 0 0 0 held");
        Check.same("its length", x.format(0), 22);
        Check.noSuch("format(4)", () -> x.format(4));
        Check.noSuch("format(-1)", () -> x.format(-1));
    }

    private static String lastText(CinemaChain x, int length) {
        StringBuilder text = new StringBuilder();
        for (int i = 0; i < length; i++) {
            text.append((char) x.formattedByte(i));
        }
        return text.toString();
    }

    private static void promise35FormattedByte() {
        CinemaChain x = Texts.twoHouses();
        Check.same("no text yet", x.formattedByte(0), NONE);
        x.book(3, 2);
        x.format(3);
        String due = "s3: 2 2 2 2 2 2 2";
        Check.same("the first byte", x.formattedByte(0), 's');
        Check.same("the last byte", x.formattedByte(16), '2');
        Check.same("behind it", x.formattedByte(17), NONE);
        Check.same("before it", x.formattedByte(-1), NONE);
        Check.same("far behind it", x.formattedByte(Integer.MAX_VALUE), NONE);
        x.saveSnapshot();
        x.empty(3);
        Check.sameText("behind another operation", lastText(x, 17), due);
        x.undo();
        Check.sameText("behind undo", lastText(x, 17), due);
        x.restoreSnapshot();
        Check.sameText("behind restoreSnapshot", lastText(x, 17), due);
        Check.noSuch("format(9)", () -> x.format(9));
        Check.sameText("behind a format that throws", lastText(x, 17), due);
        Check.load(x, "house 1 1;");
        Check.sameText("behind load", lastText(x, 17), due);
        CinemaChain y = Texts.bookedHouses();
        y.close();
        y.format(0);
        y.format(2);
        Check.same("a shorter text leaves nothing of a longer one", y.formattedByte(17), NONE);
    }

    private static void promise36UndoCount() {
        CinemaChain x = Texts.twoHouses();
        Check.same("undoCount", x.undoCount(), 0);
        for (int i = 1; i < 13; i++) {
            x.empty(0);
            Check.same("undoCount", x.undoCount(), Math.min(i, 10));
        }
        x.undo();
        Check.same("undoCount behind undo", x.undoCount(), 9);
        x.forecast(0, 0);
        x.book(3, 0);
        Check.same("refused calls do not count", x.undoCount(), 9);
    }

    private static void undoes(String what, Check.Call operation, CinemaChain x) {
        String before = Answers.of(x);
        int undos = x.undoCount();
        operation.run();
        String between = Answers.of(x);
        Check.no(what + " changes nothing", before.equals(between));
        Check.same("undo of " + what, x.undo(), Math.min(undos, 9));
        Check.sameText("everything behind undo of " + what, Answers.of(x), before);
        operation.run();
        Check.same(what + " again", x.undoCount(), Math.min(undos + 1, 10));
    }

    private static void promise37Undo() {
        CinemaChain x = Texts.bookedHouses();
        x.split(1, 1, 2, 3);
        undoes("book over a split week", () -> x.book(1, 1), x);
        CinemaChain y = Texts.bookedHouses();
        undoes("close", y::close, y);
        CinemaChain z = Texts.bookedHouses();
        z.setHoldover(0, 60);
        z.setHoldover(0, 61);
        z.setRent(2, 60);
        z.move(0, NONE, 1);
        z.close();
        z.move(0, 1, NONE);
        undoes("a close of held screens", z::close, z);
    }

    private static void promise37Age() {
        CinemaChain x = Texts.twoHouses();
        x.book(0, 0);
        x.close();
        x.undo();
        x.empty(0);
        x.close();
        Check.same("no age by a week that was undone", x.film(0, 4), 0);
    }

    private static void promise37Ten() {
        CinemaChain x = new CinemaChain();
        for (int fee = 1; fee <= 12; fee++) {
            x.setFee(fee);
        }
        for (int left = 9; left >= 0; left--) {
            Check.same("undo", x.undo(), left);
            Check.same("the fee before", x.size(4), left + 2);
        }
        Check.same("no eleventh undo", x.undo(), NONE);
        Check.same("nothing changes", x.size(4), 2);
        x.setFee(2);
        Check.same("a call that changes nothing is recorded", x.undo(), 0);
    }

    /** What tells one week from another where only the rent of screen 0 changes. */
    private static String weekOf(CinemaChain x) {
        int kept = Math.min(20, x.size(3));
        return x.size(3) + " rents " + x.total(2) + " age " + x.film(0, 4) + " demand " + x.film(0, 5) + " run "
                + x.run(0, 0) + (kept == 0 ? "" : " first " + x.closed(kept - 1, 2) + " last " + x.closed(0, 2));
    }

    private static void promise37Closes() {
        CinemaChain x = Texts.bookedHouses();
        String[] before = new String[25];
        for (int week = 0; week < 25; week++) {
            before[week] = weekOf(x);
            x.setRent(0, week);
            x.undo();
            x.close();
        }
        for (int week = 24; week >= 15; week--) {
            x.undo();
            Check.sameText("as before the close of week " + week, weekOf(x), before[week]);
        }
        Check.same("undo", x.undo(), NONE);
        Check.same("the amounts of 15 weeks", x.closed(14, 0), 5152);
    }

    private static void promise38SaveSnapshot() {
        CinemaChain x = Texts.bookedHouses();
        x.move(0, NONE, 1);
        x.close();
        String first = Answers.of(x);
        int undos = x.undoCount();
        x.saveSnapshot();
        Check.same("it is no operation", x.undoCount(), undos);
        x.undo();
        x.undo();
        x.setFee(8);
        x.close();
        Check.yes("restoreSnapshot", x.restoreSnapshot());
        Check.sameText("everything as it was", Answers.of(x), first);
        x.setHoldover(1, 3);
        x.book(2, 2);
        x.saveSnapshot();
        x.close();
        x.restoreSnapshot();
        Check.same("the later snapshot", x.house(1, 1), 3);
        Check.same("its booking", x.screen(2, 4), 2);
        CinemaChain y = new CinemaChain();
        y.saveSnapshot();
        y.setFee(5);
        y.restoreSnapshot();
        Check.same("a snapshot of a new object", y.size(4), 0);
    }

    private static void promise39RestoreSnapshot() {
        CinemaChain x = Texts.bookedHouses();
        Check.no("restoreSnapshot without one", x.restoreSnapshot());
        Check.same("nothing changes", x.size(6), 4);
        Check.same("the undo history stays", x.undoCount(), 4);
        x.saveSnapshot();
        x.close();
        Check.yes("restoreSnapshot", x.restoreSnapshot());
        Check.same("no closed week", x.size(3), 0);
        Check.same("takings again", x.house(0, 3), 4900);
        Check.same("no undo history", x.undoCount(), 0);
        Check.same("nothing to undo", x.undo(), NONE);
        x.setFee(9);
        x.empty(0);
        Check.yes("restoreSnapshot again", x.restoreSnapshot());
        Check.same("the fee", x.size(4), 7);
        Check.same("the booking", x.screen(0, 4), 0);
        Check.load(x, Texts.TWO_HOUSES);
        Check.no("load discards it", x.restoreSnapshot());
    }
}

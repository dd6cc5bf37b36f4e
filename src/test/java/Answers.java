/** All answers of an object that calls may change, as one text, in some two hundred calls for a small chain. */
final class Answers {
    private final CinemaChain x;
    private final StringBuilder all = new StringBuilder();

    private Answers(CinemaChain x) {
        this.x = x;
    }

    /** What operations change, and so what undo and restoreSnapshot bring back. */
    static String of(CinemaChain x) {
        Answers answers = new Answers(x);
        answers.addChain();
        answers.addHouses();
        answers.addScreens();
        answers.addFilms();
        return answers.all.toString();
    }

    /** The same with what undo and restoreSnapshot leave alone: for calls that change nothing at all. */
    static String andHistoryOf(CinemaChain x) {
        return of(x) + " undos " + x.undoCount() + " error " + x.errorPosition() + " byte " + x.formattedByte(0);
    }

    private void add(String name, long answer) {
        all.append(name).append(answer).append(' ');
    }

    private void addChain() {
        for (int what = 0; what < 8; what++) {
            add("size", x.size(what));
        }
        for (int what = 0; what < 5; what++) {
            add("total", x.total(what));
        }
        for (int back = 0; back < Math.min(20, x.size(3)); back++) {
            for (int what = 0; what < 5; what++) {
                add("closed", x.closed(back, what));
            }
        }
        add("move", x.bestMove());
    }

    private void addHouses() {
        for (int house = 0; house < x.size(0); house++) {
            for (int what = 0; what < 6; what++) {
                add("house", x.house(house, what));
            }
            add("gain", x.bestGain(house));
            for (int film = 0; film < x.size(2); film++) {
                add("run", x.run(house, film));
                add("share", x.share(house, film));
            }
        }
    }

    private void addScreens() {
        for (int screen = 0; screen < x.size(1); screen++) {
            for (int what = 0; what < 9; what++) {
                add("screen", x.screen(screen, what));
            }
            add("day0:", x.visitors(screen, 0));
            add("day6:", x.visitors(screen, 6));
            add("hold", x.wouldHold(screen) ? 1 : 0);
        }
    }

    private void addFilms() {
        for (int film = 0; film < x.size(2); film++) {
            for (int what = 0; what < 8; what++) {
                add("film", x.film(film, what));
            }
            for (int place = -1; place < x.size(0); place++) {
                add("prints", x.prints(film, place));
            }
            add("chart", x.chart(film));
        }
    }
}

/** All answers of an object that calls may change, as one text, in some two hundred calls for a small chain. */
final class Answers {
    private final CinemaChain x;
    // Asked for once: an object is good for 512 calls, and a test may want all answers more than once.
    private final int houses;
    private final int screens;
    private final int films;
    private final StringBuilder all = new StringBuilder();

    private Answers(CinemaChain x) {
        this.x = x;
        houses = x.size(0);
        screens = x.size(1);
        films = x.size(2);
    }

    /** What operations change, and so what undo and restoreSnapshot bring back. */
    static String of(CinemaChain x) {
        Answers answers = new Answers(x);
        answers.addChain();
        answers.addHouses();
        answers.addScreens();
        answers.addFilms();
        return answers.all.toString();
    }

    /** The same with what undo and restoreSnapshot leave alone: for calls that change nothing at all. */
    static String andHistoryOf(CinemaChain x) {
        return of(x) + " undos " + x.undoCount() + " error " + x.errorPosition() + " byte " + x.formattedByte(0);
    }

    private void add(String name, long answer) {
        all.append(name).append(answer).append(' ');
    }

    private void addChain() {
        add("houses", houses);
        add("screens", screens);
        add("films", films);
        for (int what = 3; what < 8; what++) {
            add("size", x.size(what));
        }
        for (int what = 0; what < 5; what++) {
            add("total", x.total(what));
        }
        int weeks = Math.min(20, x.size(3));
        for (int back = 0; back < weeks; back++) {
            for (int what = 0; what < 5; what++) {
                add("closed", x.closed(back, what));
            }
        }
        add("move", x.bestMove());
    }

    private void addHouses() {
        for (int house = 0; house < houses; house++) {
            for (int what = 0; what < 6; what++) {
                add("house", x.house(house, what));
            }
            add("gain", x.bestGain(house));
            for (int film = 0; film < films; film++) {
                add("run", x.run(house, film));
                add("share", x.share(house, film));
            }
        }
    }

    private void addScreens() {
        for (int screen = 0; screen < screens; screen++) {
            for (int what = 0; what < 9; what++) {
                add("screen", x.screen(screen, what));
            }
            add("day0:", x.visitors(screen, 0));
            add("day6:", x.visitors(screen, 6));
            add("hold", x.wouldHold(screen) ? 1 : 0);
        }
    }

    private void addFilms() {
        for (int film = 0; film < films; film++) {
            for (int what = 0; what < 8; what++) {
                add("film", x.film(film, what));
            }
            for (int place = -1; place < houses; place++) {
                add("prints", x.prints(film, place));
            }
            add("chart", x.chart(film));
        }
    }
}

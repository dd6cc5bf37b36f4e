/** The chains that several tests use. */
final class Texts {
    /**
     * Capacities: screens 0 to 3 have 40, 30, 30 and 50. House 0 costs 10 and holds at 50, house 1
     * costs 4 and holds at 100.
     */
    static final String TWO_HOUSES = "house 10 50;house 4 100;"
            + "screen 0 20 2 100;screen 0 10 3 50;screen 0 30 1 0;screen 1 50 1 7;"
            + "film 50 50 100 60 40;film 30 80 0 50;film 9 100 5000 0;"
            + "prints 0 0 1;prints 1 0 2;prints 2 0 1;prints 0 depot 1;prints 2 1 1;fee 7;";

    private Texts() {
    }

    static CinemaChain twoHouses() {
        return Check.loaded(TWO_HOUSES);
    }

    /** Screens 0 and 1 are held behind its close, screens 2 and 3 are not. */
    static CinemaChain bookedHouses() {
        CinemaChain x = twoHouses();
        x.book(0, 0);
        x.book(1, 1);
        x.book(2, 1);
        x.book(3, 2);
        return x;
    }
}

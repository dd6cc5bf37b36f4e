/** Boundary cases of the texts that load and query read, sentence by sentence. */
final class TextBoundaries {
    private static final int NONE = CinemaChain.NONE;
    private static final String TEXT = "Input text";
    private static final String HOUSE = "house 5 5;";
    private static final String FILM = "film 1 1 1 1;";

    private TextBoundaries() {
    }

    static void all() {
        tokens();
        chains();
        queries();
        errors();
    }

    // ---- tokens ----

    private static void tokens() {
        words();
        numbers();
        signs();
        spaces();
    }

    private static void words() {
        Doc.says(TEXT, "Tokens: a word is a maximal run of the letters 'a' to 'z';");
        Check.loads("house5 5;");
        Check.loads(HOUSE + FILM + "prints0depot1;");
        Check.failsToLoad("houses 5 5;", 1, 0);
        Check.failsToLoad("hous 5 5;", 1, 0);
        Check.failsToLoad("ahouse 5 5;", 1, 0);
        Check.failsToLoad("housez 5 5;", 1, 0);
        Check.failsToLoad("housea 5 5;", 1, 0);
        Check.failsToLoad("mouse 5 5;", 1, 0);
        Check.failsToLoad("housefee 5 5;", 1, 0);
        Check.failsToLoad("zoo", 1, 0);
        // The signs beside 'a' and 'z', and a letter that is not among them.
        Check.failsToLoad(HOUSE + "`fee 1;", 1, 10);
        Check.failsToLoad("house{5 5;", 1, 5);
        Check.failsToLoad("House 5 5;", 1, 0);
        Check.failsToLoad("houseS 5 5;", 1, 5);
        Check.same("a word of a query ends with its letters", Check.query(Texts.twoHouses(), "many0=0"), 4);
        Check.failsToQuery(Texts.twoHouses(), "manyscreen=0", 1, 0);
    }

    private static void numbers() {
        Doc.says(TEXT, "a number is a maximal run of decimal digits (leading zeros are allowed);");
        CinemaChain x = Check.loaded("house 01 00000000000000000000000000000000000000000100;");
        Check.same("a leading zero", x.house(0, 0), 1);
        Check.same("many leading zeros", x.house(0, 1), 100);
        Check.loads("fee 000;");
        Check.failsToLoad("house 00 1;", 2, 6);
        Check.failsToLoad("house 0100 1;", 2, 6);
        Check.failsToLoad("house 9999999999999999999999999999999999999999 1;", 2, 6);
        // The signs beside '0' and '9' end a number.
        Check.failsToLoad("house 5/5;", 1, 7);
        Check.failsToLoad("house 5:5;", 1, 7);
        CinemaChain y = Check.loaded("house 19 90;screen 0 1 1 2;");
        Check.same("all digits of a number", y.house(0, 0), 19);
        Check.same("all digits of a number", y.house(0, 1), 90);
        Check.failsToLoad("house 55;", 1, 8);
    }

    private static void signs() {
        Doc.says(TEXT, "every other byte except space (32) and line feed (10) is a token by itself.");
        for (int code = 0; code < 256; code++) {
            boolean blank = code == ' ' || code == '\n';
            boolean letter = code >= 'a' && code <= 'z';
            boolean digit = code >= '0' && code <= '9';
            if (blank) {
                Check.loads(HOUSE + (char) code + FILM);
            } else if (!letter && !digit) {
                Check.failsToLoad(HOUSE + (char) code + FILM, 1, 10);
                Check.failsToQuery(Texts.twoHouses(), "many 1=1" + (char) code, 1, 8);
            }
        }
        Check.failsToLoad("house 5 5;;", 1, 10);
        Check.failsToQuery(Texts.twoHouses(), "many 1<=2", 1, 7);
    }

    private static void spaces() {
        Doc.says(TEXT, "Spaces and line feeds may appear before, between and behind tokens.");
        Check.loads(" \n house \n\n 5 \n 5  ; \n ");
        Check.loads("\n");
        Check.loads(" ");
        Check.same("in a query", Check.query(Texts.twoHouses(), "\n many \n ( screen \n = 0 \n ) \n "), 1);
        Check.failsToLoad("ho use 5 5;", 1, 0);
        Check.failsToLoad("house 5 5 5;", 1, 10);
    }

    // ---- chains ----

    private static void chains() {
        clauses();
        places();
        earlierNumbers();
        lastOnes();
    }

    private static void clauses() {
        Doc.says(TEXT, "text: clause*");
        Check.same("no clause", Check.load(new CinemaChain(), ""), 0);
        Check.same("one clause", Check.load(new CinemaChain(), "fee 1;"), 0);
        Check.loads("fee 1;".repeat(100));
        Doc.says(TEXT, "clause: 'house' price holdover ';' | 'screen' HOUSE seats shows rent ';' | 'film' demand kept "
                + "guarantee term [term [term [term]]] ';' | 'prints' FILM place n (0 to 9) ';' | 'fee' n ';'");
        everyTokenIsNeeded("house 1 1;");
        everyTokenIsNeeded(HOUSE + "screen 0 1 1 1;");
        everyTokenIsNeeded("film 1 1 1 1;");
        everyTokenIsNeeded(HOUSE + FILM + "prints 0 0 1;");
        everyTokenIsNeeded(HOUSE + FILM + "prints 0 depot 1;");
        everyTokenIsNeeded("fee 1;");
        CinemaChain x = Check.loaded("film 1 1 1 5;film 1 1 1 5 6;film 1 1 1 5 6 7;film 1 1 1 5 6 7 8;");
        for (int film = 0; film < 4; film++) {
            Check.same("terms of film " + film, x.film(film, 3), film + 1);
            Check.same("the last term of film " + film, x.term(film, film), 5 + film);
        }
    }

    /** The last clause without its end, cut behind each of its tokens, and there with a sign that no clause has. */
    private static void everyTokenIsNeeded(String text) {
        Check.loads(text);
        int begin = text.lastIndexOf(';', text.length() - 2) + 1;
        for (int end = begin + 1; end < text.length(); end++) {
            if (text.charAt(end) == ' ' || text.charAt(end) == ';') {
                Check.failsToLoad(text.substring(0, end), 1, end);
                Check.failsToLoad(text.substring(0, end) + "!", 1, end);
            }
        }
    }

    private static void places() {
        Doc.says(TEXT, "place: 'depot' | HOUSE");
        CinemaChain x = Check.loaded(HOUSE + HOUSE + FILM + "prints 0 depot 3;prints 0 0 4;prints 0 1 5;");
        Check.same("the depot", x.prints(0, NONE), 3);
        Check.same("the first house", x.prints(0, 0), 4);
        Check.same("the last house", x.prints(0, 1), 5);
        Check.failsToLoad(HOUSE + FILM + "prints 0 house 1;", 1, 32);
        Check.failsToLoad(HOUSE + FILM + "prints 0 depots 1;", 1, 32);
        Check.failsToLoad(HOUSE + FILM + "prints 0 1 1;", 2, 32);
        Check.failsToLoad(HOUSE + FILM + "prints 0 ;", 1, 32);
        Check.failsToLoad(HOUSE + FILM + "prints depot 0 1;", 1, 30);
    }

    private static void earlierNumbers() {
        Doc.says(TEXT, "HOUSE and FILM are numbers of an earlier house or film.");
        Check.failsToLoad("screen 0 1 1 1;" + HOUSE, 2, 7);
        Check.failsToLoad(HOUSE + "screen 1 1 1 1;" + HOUSE, 2, 17);
        Check.loads(HOUSE + HOUSE + "screen 1 1 1 1;");
        Check.failsToLoad("prints 0 depot 1;" + FILM, 2, 7);
        Check.failsToLoad(FILM + "prints 1 depot 1;" + FILM, 2, 20);
        Check.loads(FILM + FILM + "prints 1 depot 1;");
        Check.failsToLoad(FILM + "prints 0 0 1;" + HOUSE, 2, 22);
        Check.failsToLoad(FILM + HOUSE + "prints 0 1 1;" + HOUSE, 2, 32);
        Check.loads(FILM + HOUSE + HOUSE + "prints 0 1 1;");
    }

    private static void lastOnes() {
        Doc.says(TEXT, "'prints' sets the number of prints of a film at a place (the last occurrence for them counts;");
        CinemaChain x = Check.loaded(HOUSE + FILM + FILM + "prints 0 0 9;prints 0 depot 9;prints 1 0 7;prints 0 0 2;"
                + "prints 0 depot 0;");
        Check.same("the last number for the house", x.prints(0, 0), 2);
        Check.same("the last number, 0, for the depot", x.prints(0, NONE), 0);
        Check.same("the other film", x.prints(1, 0), 7);
        Doc.says(TEXT, "0 without one);");
        Check.same("no occurrence", x.prints(1, NONE), 0);
        Doc.says(TEXT, "the last 'fee' counts.");
        Check.same("two fees", Check.loaded("fee 9;fee 8;").size(4), 8);
        Check.same("a fee of 0 behind another", Check.loaded("fee 9;" + HOUSE + "fee 0;").size(4), 0);
        Check.same("no fee", Check.loaded(HOUSE).size(4), 0);
    }

    // ---- queries ----

    private static void queries() {
        manyAndFirst();
        testsAndConjunctions();
        factors();
        values();
        properties();
    }

    private static int ask(String text) {
        return Check.query(Texts.twoHouses(), text);
    }

    private static void failsToAsk(String text, int code, int position) {
        Check.failsToQuery(Texts.twoHouses(), text, code, position);
    }

    private static void manyAndFirst() {
        Doc.says(TEXT, "query: ('many' | 'first') test");
        Check.same("many", ask("many screen>0"), 3);
        Check.same("first", ask("first screen>0"), 1);
        failsToAsk("", 1, 0);
        failsToAsk("screen>0", 1, 0);
        failsToAsk("all screen>0", 1, 0);
        failsToAsk("many", 1, 4);
        failsToAsk("first ", 1, 6);
        failsToAsk("many first screen>0", 1, 5);
        failsToAsk("many screen>0 many", 1, 14);
    }

    private static void testsAndConjunctions() {
        Doc.says(TEXT, "test: conjunction ('or' conjunction)*.");
        Check.same("one conjunction", ask("many screen=1"), 1);
        Check.same("three conjunctions", ask("many screen=1 or screen=2 or screen=3"), 3);
        Check.same("the last one alone", ask("first 1=2 or 1=2 or screen=3"), 3);
        failsToAsk("many screen=1 or", 1, 16);
        failsToAsk("many or screen=1", 1, 5);
        Doc.says(TEXT, "conjunction: factor ('and' factor)*.");
        Check.same("three factors", ask("many screen>0 and screen<3 and screen<2"), 1);
        Check.same("and before or", ask("many screen=0 or screen=1 and screen=2"), 1);
        Check.same("and before or", ask("many screen=1 and screen=2 or screen=3"), 1);
        failsToAsk("many screen=1 and", 1, 17);
        failsToAsk("many screen=1 and or", 1, 18);
    }

    private static void factors() {
        Doc.says(TEXT, "factor: 'not' factor | '(' test ')' | value ('<' | '=' | '>') value.");
        Check.same("not", ask("many not screen=0"), 3);
        Check.same("not holds for its factor alone", ask("many not screen=0 and screen=0"), 0);
        Check.same("not of parentheses", ask("many not (screen=0 or screen=1)"), 2);
        Check.same("parentheses before and", ask("many (screen=0 or screen=1) and screen=1"), 1);
        Check.same("less", ask("many screen<2"), 2);
        Check.same("equal", ask("many screen=2"), 1);
        Check.same("greater", ask("many screen>2"), 1);
        Check.same("not greater than the last", ask("many screen>3"), 0);
        Check.same("not less than the first", ask("many screen<0"), 0);
        failsToAsk("many ()", 1, 6);
        failsToAsk("many (screen=0", 1, 14);
        failsToAsk("many screen=0)", 1, 13);
        failsToAsk("many screen", 1, 11);
        failsToAsk("many screen=", 1, 12);
        failsToAsk("many screen 0", 1, 12);
        failsToAsk("many screen=0=0", 1, 13);
        failsToAsk("many not", 1, 8);
        failsToAsk("many screen=(0)", 1, 12);
        failsToAsk("many (screen)=0", 1, 12);
        failsToAsk("many screen=not 0", 1, 12);
    }

    private static void values() {
        Doc.says(TEXT, "value: a number from 0 to 99999, or one of these properties of a screen");
        Check.same("the least number", ask("many 0=00"), 4);
        Check.same("the greatest number", ask("many 99999=099999"), 4);
        Check.same("one less is another number", ask("many 99998<99999"), 4);
        failsToAsk("many 100000=1", 2, 5);
        failsToAsk("many 1=100000", 2, 7);
        failsToAsk("many 4294967296=0", 2, 5);
        failsToAsk("many 18446744073709551616=0", 2, 5);
        failsToAsk("many -1=0", 1, 5);
        failsToAsk("many films=0", 1, 5);
        failsToAsk("many screens=0", 1, 5);
        failsToAsk("many seat=0", 1, 5);
        failsToAsk("many screen=depot", 1, 12);
        failsToAsk("many screen=many", 1, 12);
    }

    private static void properties() {
        Doc.says(TEXT, "'screen' (its number), 'house', 'seats', 'capacity', 'rent', 'booked' (0 if it is empty, 1 for a "
                + "whole week, 2 for a split week), 'held' (1 or 0), 'takings' (in the present week), 'visitors' (likewise)");
        CinemaChain x = Texts.bookedHouses();
        x.split(1, 1, 2, 3);
        x.empty(2);
        String[] names = {"screen", "house", "seats", "capacity", "rent", "booked", "held", "takings", "visitors"};
        int[][] due = {{0, 1, 2, 3}, {0, 0, 0, 1}, {20, 10, 30, 50}, {40, 30, 30, 50}, {100, 50, 0, 7}, {1, 2, 0, 1},
            {0, 0, 0, 0}, {2800, 1260, 0, 252}, {280, 126, 0, 63}};
        for (int name = 0; name < names.length; name++) {
            for (int screen = 0; screen < 4; screen++) {
                Check.same(names[name] + " of screen " + screen, Check.query(x, "many screen=" + screen + " and "
                        + names[name] + "=" + due[name][screen]), 1);
            }
        }
        x.close();
        Check.same("screens that are held", Check.query(x, "many held=1"), 1);
        Check.same("screens that are not", Check.query(x, "many held=0"), 3);
        Check.same("a held screen is booked for a whole week", Check.query(x, "many booked=1 and held=1"), 1);
        Check.same("takings of the present week", Check.query(x, "many screen=0 and takings=1750"), 1);
        Check.same("visitors of the present week", Check.query(x, "many screen=0 and visitors=175"), 1);
    }

    // ---- errors ----

    private static void errors() {
        firstError();
        smallestCode();
        notAllowed();
        outOfRange();
        tooMany();
        sevenOpen();
        endsOfNots();
        fullHouses();
    }

    private static void firstError() {
        Doc.says(TEXT, "The text is checked token by token, and the first token with an error determines the result.");
        Check.failsToLoad("house 100 x", 2, 6);
        Check.failsToLoad("house x 101", 1, 6);
        Check.failsToLoad("house 1 101 x", 2, 8);
        Check.failsToLoad(HOUSE.repeat(5) + "x", 3, 40);
        Check.failsToLoad(HOUSE + "screen 1 x", 2, 17);
        failsToAsk("many 100000 100000", 2, 5);
        failsToAsk("many 1 100000", 1, 7);
        failsToAsk("many (((((((100000", 3, 11);
        failsToAsk("many ((((((100000=(", 2, 11);
    }

    private static void smallestCode() {
        Doc.says(TEXT, "If several codes apply to one token, the smallest one counts.");
        // Where no number can stand, it is not allowed, however great it is.
        Check.failsToLoad("100000", 1, 0);
        Check.failsToLoad("house 1 1 100000;", 1, 10);
        Check.failsToLoad("film 0 0 0 0 0 0 0 100000;", 1, 19);
        failsToAsk("many 1=1 100000", 1, 9);
        failsToAsk("many 1 100000=1", 1, 7);
        // The keyword of a fifth house inside a clause.
        Check.failsToLoad(HOUSE.repeat(4) + "fee house", 1, 44);
        // A seventh one where none is allowed.
        failsToAsk("many not not not not not not 1 not", 1, 31);
        failsToAsk("many ((((((1=(", 1, 13);
        failsToAsk("many ((((((1=1(", 1, 14);
        // A HOUSE that is out of range and so cannot have four screens.
        String full = HOUSE + "screen 0 1 1 1;".repeat(4);
        Check.failsToLoad(full + "screen 1", 2, full.length() + 7);
    }

    private static void notAllowed() {
        Doc.says(TEXT, "1: the token is not allowed here, or the text ends too early (the position is then the length of the "
                + "text).");
        Check.failsToLoad("depot", 1, 0);
        Check.failsToLoad("5", 1, 0);
        Check.failsToLoad(";", 1, 0);
        Check.failsToLoad("house house", 1, 6);
        Check.failsToLoad("house 5 5 house", 1, 10);
        Check.failsToLoad("house", 1, 5);
        Check.failsToLoad("house ", 1, 6);
        Check.failsToLoad("house 5 5", 1, 9);
        Check.failsToLoad("house 5 5 \n \n", 1, 13);
        failsToAsk("   ", 1, 3);
        failsToAsk("many 1=1 and \n", 1, 14);
        CinemaChain x = new CinemaChain();
        Check.feed(x, "house 5 5;");
        Check.same("the text that is read ends, not the buffer", x.load(9), -11);
        Check.same("its position", x.errorPosition(), 9);
        Check.feed(x, "house 5 5;");
        Check.same("an end within a word", x.load(4), -11);
        Check.same("its position", x.errorPosition(), 0);
    }

    private static void outOfRange() {
        Doc.says(TEXT, "2: where a number can stand, a number that is out of range.");
        Check.failsToLoad("house 0 0;", 2, 6);
        Check.failsToLoad("film 1 1 1 1 91", 2, 13);
        failsToAsk("many not 100000", 2, 9);
        Doc.says(TEXT, "The ranges of numbers are those of the quantities above, unless they are given in parentheses.");
        Check.loads(HOUSE + FILM + "prints 0 0 9;");
        Check.failsToLoad(HOUSE + FILM + "prints 0 0 10;", 2, 34);
        Check.loads(HOUSE + FILM + "prints 0 depot 0;");
        Check.failsToLoad(HOUSE + FILM + "prints 0 depot 10;", 2, 38);
        Check.loads("fee 999;");
        Check.failsToLoad("fee 1000;", 2, 4);
    }

    private static void tooMany() {
        Doc.says(TEXT, "3: the keyword of the 5th house, the 11th screen or the 7th film;");
        Check.loads(HOUSE.repeat(4));
        Check.failsToLoad(HOUSE.repeat(4) + " house", 3, 41);
        String houses = HOUSE.repeat(3);
        String screens = houses + "screen 0 1 1 1;".repeat(4) + "screen 1 1 1 1;".repeat(4) + "screen 2 1 1 1;".repeat(2);
        Check.loads(screens);
        Check.failsToLoad(screens + "screen", 3, screens.length());
        Check.failsToLoad(screens + "screen 0", 3, screens.length());
        Check.failsToLoad(screens + "screens", 1, screens.length());
        Check.loads(FILM.repeat(6));
        Check.failsToLoad(FILM.repeat(6) + "film", 3, 78);
        Check.failsToLoad(FILM.repeat(6) + "films", 1, 78);
    }

    private static void sevenOpen() {
        Doc.says(TEXT, "in a query a 'not' or '(' that would be the seventh one open at the same time.");
        Check.same("six nots", ask("many " + "not ".repeat(6) + "screen=0"), 1);
        failsToAsk("many " + "not ".repeat(7) + "screen=0", 3, 29);
        Check.same("six parentheses", ask("many " + "(".repeat(6) + "screen=0" + ")".repeat(6)), 1);
        failsToAsk("many " + "(".repeat(7) + "screen=0" + ")".repeat(7), 3, 11);
        Check.same("three of both", ask("many not(not(not(screen=0)))"), 3);
        failsToAsk("many not(not(not(not screen=0)))", 3, 17);
        failsToAsk("many not(not(not((screen=0))))", 3, 17);
        failsToAsk("many ((((((not screen=0))))))", 3, 11);
        failsToAsk("many not not not not not not (screen=0)", 3, 29);
        failsToAsk("many not not not not not not(", 3, 28);
        Check.same("those that are closed do not count",
                ask("many ((((((1=1))))))and((((((1=1))))))or((((((1=1))))))"), 4);
    }

    private static void endsOfNots() {
        Doc.says(TEXT, "A 'not' is open until the end of its factor.");
        Check.same("behind a comparison", ask("many (((((not 1=2 and not 1=3 or not 1=4)))))and not 1=2"), 4);
        Check.same("behind a parenthesis", ask("many not not(not not(1=1)and not not(1=1))"), 4);
        Check.same("all nots of a factor end", ask("many not not not not not not 1=1 and not not not not not not 1=1"), 4);
        failsToAsk("many not not(not not(1=1 and not 1=1))", 3, 29);
        failsToAsk("many not((((((1=1))))))", 3, 13);
        Check.same("behind five of them", ask("many not(((((1=1)))))and(((((not 1=2)))))"), 0);
    }

    private static void fullHouses() {
        Doc.says(TEXT, "4: the HOUSE of a screen that has 4 screens already.");
        String four = HOUSE + HOUSE + "screen 1 1 1 1;".repeat(4);
        Check.loads(four);
        Check.failsToLoad(four + "screen 1 1 1 1;", 4, four.length() + 7);
        Check.failsToLoad(four + "screen 001", 4, four.length() + 7);
        Check.loads(four + "screen 0 1 1 1;".repeat(4));
        Check.failsToLoad(four + "screen 0 1 1 1;".repeat(4) + "screen 0", 4, four.length() + 67);
        Check.failsToLoad(four + "screen 2", 2, four.length() + 7);
        Check.failsToLoad(four + "screen x", 1, four.length() + 7);
        Check.failsToLoad(four + "screen", 1, four.length() + 6);
        CinemaChain x = Check.loaded(four);
        Check.same("a full house of an earlier text", Check.load(x, HOUSE + "screen 1 1 1 1;"), -12);
        Check.same("a house that was full in an earlier text", Check.load(x, HOUSE + HOUSE + "screen 1 1 1 1;"), 1);
    }
}

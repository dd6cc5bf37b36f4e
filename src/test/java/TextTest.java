/** Promises 1 to 4 and 40: the buffer, chains as texts, queries, error positions. */
public final class TextTest {
    private static final String HOUSE = "house 5 5;";
    private static final String SCREEN = "screen 0 1 1 1;";
    private static final String FILM = "film 1 1 1 1;";

    public static void main(String[] args) {
        promise1NewObject();
        promise2Feed();
        promise3Load();
        promise3Ranges();
        promise3Tokens();
        promise3Replaces();
        promise3Errors();
        promise3Limits();
        promise3Lengths();
        promise4ErrorPosition();
        promise40Query();
        promise40Properties();
        promise40Errors();
        promise40Nesting();
        promise40Lengths();
        Check.end();
    }

    private static void promise1NewObject() {
        CinemaChain x = new CinemaChain();
        for (int what = 0; what < 8; what++) {
            Check.same("size of a new object", x.size(what), 0);
        }
        for (int what = 0; what < 5; what++) {
            Check.same("total of a new object", x.total(what), 0);
        }
        Check.noSuch("house of a new object", () -> x.house(0, 0));
        Check.noSuch("screen of a new object", () -> x.screen(0, 0));
        Check.noSuch("film of a new object", () -> x.film(0, 0));
        Check.noSuch("chart of a new object", () -> x.chart(0));
        Check.noSuch("closed of a new object", () -> x.closed(0, 0));
        Check.same("bestMove of a new object", x.bestMove(), CinemaChain.NONE);
        Check.same("errorPosition of a new object", x.errorPosition(), CinemaChain.NONE);
        Check.same("formattedByte of a new object", x.formattedByte(0), CinemaChain.NONE);
        Check.same("undoCount of a new object", x.undoCount(), 0);
        Check.same("undo of a new object", x.undo(), CinemaChain.NONE);
        Check.no("restoreSnapshot of a new object", x.restoreSnapshot());
        Check.same("close of a new object", x.close(), 0);
    }

    private static void promise2Feed() {
        CinemaChain x = new CinemaChain();
        for (int i = 1; i <= 35; i++) {
            Check.same("feed", x.feed(0x20202020, 0x20202020, 0x20202020, 0x20202020, 0x20202020), 20 * i);
        }
        Check.same("feed beyond 700", x.feed(0, 0, 0, 0, 0), CinemaChain.NONE);
        Check.same("nothing was appended", x.load(700), 0);
        // "house 5 5;" is 10 bytes: the order of the bytes and of the words.
        Check.same("feed", x.feed(0x686f7573, 0x65203520, 0x353b686f, 0x75736520, 0x36203737), 20);
        Check.same("feed", x.feed(0x3b202020, 0, 0, 0, 0x80808080), 40);
        Check.same("load", x.load(21), 0);
        Check.same("houses", x.size(0), 2);
        Check.same("price", x.house(1, 0), 6);
        Check.same("holdover", x.house(1, 1), 77);
    }

    private static void promise3Load() {
        CinemaChain x = new CinemaChain();
        Check.same("load", Check.load(x, Texts.TWO_HOUSES), 4);
        Check.same("houses", x.size(0), 2);
        Check.same("screens", x.size(1), 4);
        Check.same("films", x.size(2), 3);
        Check.same("fee", x.size(4), 7);
        Check.same("load of an empty text", x.load(0), 0);
        Check.same("houses then", x.size(0), 0);
        Check.same("no fee then", x.size(4), 0);
        Check.load(x, HOUSE + FILM + "prints 0 0 3;prints 0 depot 9;prints 0 0 2;fee 8;fee 999;"
                + "prints 0 depot 0;fee 3;");
        Check.same("the last prints count", x.prints(0, 0), 2);
        Check.same("the last prints count", x.prints(0, CinemaChain.NONE), 0);
        Check.same("the last fee counts", x.size(4), 3);
    }

    private static void promise3Ranges() {
        Check.loads("house 1 1;house 99 100;");
        Check.failsToLoad("house 0 1;", 2, 6);
        Check.failsToLoad("house 100 1;", 2, 6);
        Check.failsToLoad("house 1 0;", 2, 8);
        Check.failsToLoad("house 1 101;", 2, 8);
        Check.loads(HOUSE + "screen 0 1 1 0;screen 0 500 6 9999;");
        Check.failsToLoad(HOUSE + "screen 1 1 1 0;", 2, 17);
        Check.failsToLoad(HOUSE + "screen 0 0 1 0;", 2, 19);
        Check.failsToLoad(HOUSE + "screen 0 501 1 0;", 2, 19);
        Check.failsToLoad(HOUSE + "screen 0 1 0 0;", 2, 21);
        Check.failsToLoad(HOUSE + "screen 0 1 7 0;", 2, 21);
        Check.failsToLoad(HOUSE + "screen 0 1 1 10000;", 2, 23);
        Check.loads("film 0 0 0 0;film 9999 100 9999 90 90 90 90;");
        Check.failsToLoad("film 10000 0 0 0;", 2, 5);
        Check.failsToLoad("film 0 101 0 0;", 2, 7);
        Check.failsToLoad("film 0 0 10000 0;", 2, 9);
        Check.failsToLoad("film 0 0 0 91;", 2, 11);
        Check.failsToLoad("film 0 0 0 0 91;", 2, 13);
        Check.failsToLoad("film 0 0 0 0 0 91;", 2, 15);
        Check.failsToLoad("film 0 0 0 0 0 0 91;", 2, 17);
        Check.failsToLoad("film 0 0 0 0 0 0 0 0;", 1, 19);
        Check.failsToLoad("film 0 0 0 0 0 0 0 91;", 1, 19);
        Check.loads(HOUSE + FILM + "prints 0 0 9;prints 0 depot 0;");
        Check.failsToLoad(HOUSE + FILM + "prints 1 0 9;", 2, 30);
        Check.failsToLoad(HOUSE + FILM + "prints 0 1 9;", 2, 32);
        Check.failsToLoad(HOUSE + FILM + "prints 0 0 10;", 2, 34);
        Check.failsToLoad(FILM + "prints 0 0 1;", 2, 22);
        Check.failsToLoad("prints 0 depot 1;", 2, 7);
        Check.loads("fee 0;fee 999;");
        Check.failsToLoad("fee 1000;", 2, 4);
        Check.failsToLoad("house 99999999999999999999999999999999999999 1;", 2, 6);
        Check.failsToLoad("house 4294967301 1;", 2, 6);
        Check.loads("house 000000000000000000000000000005 0100;");
    }

    private static void promise3Tokens() {
        Check.loads("house5 5;screen0 1 1 1;film1 1 1 1;prints0depot1;prints0 0 1;fee1;");
        Check.loads(" \n house\n5\n\n5 ; \n");
        Check.loads("house 5 5\n;\nfee 1\n;");
        Check.failsToLoad("house 5 5;\tfee 1;", 1, 10);
        Check.failsToLoad("house 5 5;\rfee 1;", 1, 10);
        Check.failsToLoad("house 5 5;\u00e9", 1, 10);
        Check.failsToLoad("house 5 5;\0", 1, 10);
        Check.failsToLoad("House 5 5;", 1, 0);
        Check.failsToLoad("houses 5 5;", 1, 0);
        Check.failsToLoad("hous 5 5;", 1, 0);
        Check.failsToLoad("xouse 5 5;", 1, 0);
        Check.failsToLoad("housez 5 5;", 1, 0);
        Check.failsToLoad("ahouse 5 5;", 1, 0);
        Check.failsToLoad("hou se 5 5;", 1, 0);
        Check.failsToLoad("house -5 5;", 1, 6);
        Check.failsToLoad("house 5 5,", 1, 9);
        Check.failsToLoad("house 5a 5;", 1, 7);
        Check.failsToLoad("house 5 5 5;", 1, 10);
        Check.failsToLoad(";", 1, 0);
        Check.failsToLoad("5", 1, 0);
        Check.failsToLoad("depot", 1, 0);
        Check.failsToLoad("house 5 house", 1, 8);
        Check.failsToLoad(FILM + "prints 0 depots 1;", 1, 22);
        Check.failsToLoad(FILM + "prints depot 0 1;", 1, 20);
    }

    private static void promise3Replaces() {
        CinemaChain x = Texts.bookedHouses();
        x.close();
        x.move(0, CinemaChain.NONE, 0);
        x.saveSnapshot();
        Check.same("load with an error", Check.load(x, "house 5 5; film"), -11);
        Check.same("the chain stays", x.size(1), 4);
        Check.same("the weeks stay", x.size(3), 1);
        Check.same("the holds stay", x.size(7), 2);
        Check.same("the undos stay", x.undoCount(), 6);
        Check.yes("the snapshot stays", x.restoreSnapshot());
        Check.same("load", Check.load(x, HOUSE + SCREEN + "film 8 50 0 0;prints 0 0 1;"), 1);
        Check.same("no closed week", x.size(3), 0);
        Check.same("no move", x.size(5), 0);
        Check.same("no booking", x.size(6), 0);
        Check.same("no hold", x.size(7), 0);
        Check.same("no takings", x.total(0), 0);
        Check.same("no takings of a film", x.film(0, 7), 0);
        Check.same("no run", x.run(0, 0), 0);
        Check.same("no age", x.film(0, 4), 0);
        Check.same("the full demand", x.film(0, 5), 8);
        Check.same("other prints", x.prints(0, CinemaChain.NONE), 0);
        Check.same("an empty screen", x.visitors(0, 0), 0);
        Check.same("nothing to undo", x.undo(), CinemaChain.NONE);
        Check.no("no snapshot", x.restoreSnapshot());
        x.setFee(3);
        Check.load(x, HOUSE);
        Check.same("nothing to undo behind load", x.undoCount(), 0);
    }

    private static void promise3Errors() {
        Check.failsToLoad("house", 1, 5);
        Check.failsToLoad("house ", 1, 6);
        Check.failsToLoad("house 5 5", 1, 9);
        Check.failsToLoad("house 5 5 \n ", 1, 12);
        Check.failsToLoad("house 5 5;screen", 1, 16);
        Check.failsToLoad("film 1 1 1;", 1, 10);
        Check.failsToLoad("prints", 1, 6);
        Check.failsToLoad("fee;", 1, 3);
        Check.failsToLoad("screen 0 1 1 1;", 2, 7);
        Check.failsToLoad("screen x", 1, 7);
        // The first wrong token decides, not the smallest code of the text.
        Check.failsToLoad("house 500 x", 2, 6);
        Check.failsToLoad("house x 500", 1, 6);
    }

    private static void promise3Limits() {
        String houses = HOUSE + HOUSE + HOUSE + HOUSE;
        Check.loads(houses);
        Check.failsToLoad(houses + HOUSE, 3, 40);
        Check.failsToLoad(houses + "house x", 3, 40);
        String full = SCREEN + SCREEN + SCREEN + SCREEN;
        Check.loads(HOUSE + full);
        Check.failsToLoad(HOUSE + full + SCREEN, 4, 77);
        Check.failsToLoad(HOUSE + full + "screen 1 1 1 1;", 2, 77);
        Check.failsToLoad(HOUSE + full + "screen x", 1, 77);
        Check.failsToLoad(houses + "screen 4 1 1 1;", 2, 47);
        Check.failsToLoad(HOUSE + full + "screen 0", 4, 77);
        String second = full.replace("screen 0", "screen 1");
        String ten = houses + full + second + "screen 2 1 1 1;screen 3 1 1 1;";
        Check.loads(ten);
        Check.failsToLoad(ten + "screen 3 1 1 1;", 3, 190);
        Check.failsToLoad(ten + "screen 0", 3, 190);
        String films = FILM + FILM + FILM + FILM + FILM + FILM;
        Check.loads(films);
        Check.failsToLoad(films + FILM, 3, 78);
        Check.failsToLoad(films + "films", 1, 78);
    }

    private static void promise3Lengths() {
        CinemaChain x = new CinemaChain();
        Check.illegal("load(-1)", () -> x.load(-1));
        Check.illegal("load(1) of an empty buffer", () -> x.load(1));
        Check.feed(x, "house 5 5;house 6 6;");
        Check.illegal("load(21)", () -> x.load(21));
        Check.illegal("load(-1)", () -> x.load(-1));
        Check.illegal("load(least)", () -> x.load(Integer.MIN_VALUE));
        Check.illegal("load(greatest)", () -> x.load(Integer.MAX_VALUE));
        Check.same("load(10)", x.load(10), 0);
        Check.same("only ten bytes were read", x.size(0), 1);
        Check.illegal("the buffer is empty then", () -> x.load(1));
        Check.feed(x, "house 5 ");
        Check.same("load with an error", x.load(8), -11);
        Check.illegal("the buffer is empty then, too", () -> x.load(1));
        Check.same("feed behind load", x.feed(0, 0, 0, 0, 0), 20);
    }

    private static void promise4ErrorPosition() {
        CinemaChain x = new CinemaChain();
        Check.load(x, "house 5 5;  what");
        Check.same("errorPosition", x.errorPosition(), 12);
        Check.illegal("load(5)", () -> x.load(5));
        Check.illegal("query(5)", () -> x.query(5));
        Check.same("calls that read nothing do not count", x.errorPosition(), 12);
        Check.query(x, "many 1=1");
        Check.same("errorPosition behind a good query", x.errorPosition(), CinemaChain.NONE);
        Check.query(x, "many 1=1 1");
        Check.same("errorPosition behind a bad query", x.errorPosition(), 9);
        Check.load(x, HOUSE);
        Check.same("errorPosition behind a good text", x.errorPosition(), CinemaChain.NONE);
        Check.load(x, "house");
        x.setFee(3);
        x.undo();
        Check.same("undo does not change it", x.errorPosition(), 5);
    }

    private static void promise40Query() {
        CinemaChain x = Texts.bookedHouses();
        Check.same("many", Check.query(x, "many takings > 1000"), 2);
        Check.same("first", Check.query(x, "first takings > 2000"), 0);
        Check.same("first", Check.query(x, "first takings < 2100"), 2);
        Check.same("first of none", Check.query(x, "first takings > 9999"), CinemaChain.NONE);
        Check.same("many of none", Check.query(x, "many takings > 9999"), 0);
        Check.same("many of all", Check.query(x, "many 0 = 0"), 4);
        Check.same("first of all", Check.query(x, "first 0 < 1"), 0);
        Check.same("equal is not less", Check.query(x, "many 1 < 1"), 0);
        Check.same("equal is not greater", Check.query(x, "many 1 > 1"), 0);
        Check.same("and binds first", Check.query(x, "many screen=0 or screen=1 and screen=2"), 1);
        Check.same("and binds first", Check.query(x, "many screen=1 and screen=2 or screen=3"), 1);
        Check.same("parentheses", Check.query(x, "many (screen=0 or screen=1) and screen=1"), 1);
        Check.same("not binds closest", Check.query(x, "many not screen=0 and screen=0"), 0);
        Check.same("not a group", Check.query(x, "many not (screen=0 or screen=3)"), 2);
        Check.same("not not", Check.query(x, "first not not screen=3"), 3);
        Check.same("numbers", Check.query(x, "many 00099999=99999"), 4);
        Check.same("no spaces", Check.query(x, "many(screen=0)or(screen=2)"), 2);
        Check.same("line feeds", Check.query(x, "\nmany\nscreen\n=\n0\n"), 1);
        Check.same("without screens", Check.query(new CinemaChain(), "many 1=1"), 0);
        Check.same("without screens", Check.query(new CinemaChain(), "first not 1=2"), CinemaChain.NONE);
    }

    private static void promise40Properties() {
        CinemaChain x = Texts.twoHouses();
        x.book(0, 0);
        x.split(1, 1, 2, 3);
        Check.same("screen", Check.query(x, "first screen=3"), 3);
        Check.same("house", Check.query(x, "first house=1"), 3);
        Check.same("seats", Check.query(x, "first seats=30"), 2);
        Check.same("capacity", Check.query(x, "many capacity=30"), 2);
        Check.same("rent", Check.query(x, "first rent=7"), 3);
        Check.same("booked", Check.query(x, "first booked=0"), 2);
        Check.same("booked", Check.query(x, "many booked=1 and screen=0"), 1);
        Check.same("booked", Check.query(x, "first booked=2"), 1);
        Check.same("takings", Check.query(x, "first takings=2800"), 0);
        Check.same("visitors", Check.query(x, "first visitors=280"), 0);
        Check.same("visitors", Check.query(x, "first visitors=126"), 1);
        Check.same("held", Check.query(x, "many held=1"), 0);
        x.close();
        Check.same("held", Check.query(x, "first held=1"), 0);
        Check.same("two properties", Check.query(x, "many seats=capacity"), 2);
    }

    private static void refused(String text, int code, int position) {
        Check.failsToQuery(Texts.twoHouses(), text, code, position);
    }

    private static void promise40Errors() {
        refused("", 1, 0);
        refused("many", 1, 4);
        refused("many  ", 1, 6);
        refused("last 1=1", 1, 0);
        refused("1=1", 1, 0);
        refused("manyfirst 1=1", 1, 0);
        refused("many many", 1, 5);
        refused("many screen", 1, 11);
        refused("many screen=", 1, 12);
        refused("many screen 1", 1, 12);
        refused("many screen=1 screen", 1, 14);
        refused("many screen=1)", 1, 13);
        refused("many (screen=1", 1, 14);
        refused("many (1)=1", 1, 7);
        refused("many 1=1 and", 1, 12);
        refused("many 1=1 or or", 1, 12);
        refused("many not", 1, 8);
        refused("many 1=not 1", 1, 7);
        refused("many shows=1", 1, 5);
        refused("many 1=1;", 1, 8);
        refused("many 1==1", 1, 7);
        refused("many 100000=1", 2, 5);
        refused("many 1=100000", 2, 7);
        refused("many 1=99999999999999999999", 2, 7);
        refused("many 1=1 100000", 1, 9);
        CinemaChain x = new CinemaChain();
        Check.same("an error without screens", Check.query(x, "many screen"), CinemaChain.HIDDEN - 1);
    }

    private static void promise40Nesting() {
        CinemaChain x = Texts.twoHouses();
        Check.same("six nots", Check.query(x, "many not not not not not not screen=0"), 1);
        refused("many not not not not not not not screen=0", 3, 29);
        Check.same("six parentheses", Check.query(x, "many ((((((screen=0))))))"), 1);
        refused("many (((((((screen=0)))))))", 3, 11);
        Check.same("mixed", Check.query(x, "many not(not(not(screen=0)))"), 3);
        refused("many not(not(not(not screen=0)))", 3, 17);
        Check.same("a not ends with its factor",
                Check.query(x, "many (((((not 1=2 and not 1=3 or not 1=4)))))and not 1=2"), 4);
        Check.same("a parenthesis ends its nots",
                Check.query(x, "many not not not((1=1)and(not 1=1)or(1=1))and not not not not not not 1=1"), 0);
        refused("many ((((((not x", 3, 11);
        refused("many 1=1 not", 1, 9);
    }

    private static void promise40Lengths() {
        CinemaChain x = Texts.twoHouses();
        String blanks = " ".repeat(192);
        Check.feed(x, "many 1=1" + blanks + blanks);
        Check.illegal("query(201)", () -> x.query(201));
        Check.illegal("query(-1)", () -> x.query(-1));
        Check.same("query(200)", x.query(200), 4);
        Check.illegal("the buffer is empty then", () -> x.query(1));
        Check.feed(x, "many 1=1");
        Check.illegal("query(21)", () -> x.query(21));
        Check.illegal("query(greatest)", () -> x.query(Integer.MAX_VALUE));
        Check.same("query(8)", x.query(8), 4);
        Check.feed(x, "many 1=1");
        Check.same("query(6)", x.query(6), CinemaChain.HIDDEN - 1);
        Check.same("its position", x.errorPosition(), 6);
        Check.illegal("the buffer is empty then, too", () -> x.load(1));
        Check.same("query(0)", x.query(0), CinemaChain.HIDDEN - 1);
    }
}

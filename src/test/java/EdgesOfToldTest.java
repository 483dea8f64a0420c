/** Whom a NAME fits, KINDS over one another, and promises 6 to 9 and 28: each bound, each refused call. */
public final class EdgesOfToldTest {
    private static final Checks C = new Checks();
    private static final int NONE = PerilSeat.NONE, U = PerilSeat.UNKNOWN, O = PerilSeat.OUTSIDE, N = PerilSeat.NOT;
    private static final int[] FAR = {Integer.MIN_VALUE, Integer.MAX_VALUE, -2, 32, 64, 256};
    /** A SEAT of each KIND; a KNIGHT of each KIND, and one more, who is TAKEN by open(). */
    private static final String TABLE = "table 5;gold 1 5;meek 2 4;kin 3 9;mourning 4;knight 5 0;squire 4 9;king 0 0;"
        + "knight 5 5;enemies 0 3;peril 4 3";

    public static void main(String[] args) {
        openFits();
        goldFits();
        meekFits();
        kinFits();
        mourningFits();
        kings();
        kindsOfKnights();
        kindsOfNames();
        seat();
        seatRefused();
        knight();
        knightRefused();
        as();
        asRefused();
        seatAs();
        seatAsRefused();
        count();
        countRefused();
        C.end();
    }

    private static PerilSeat open() {
        PerilSeat x = new PerilSeat();
        open(x);
        return x;
    }

    private static void open(PerilSeat x) {
        Checks.table(x, TABLE);
        x.sit(3, 4);
        x.tell(0, 0);
        x.feast();
        x.sit(1, 0);
    }

    /** That the NAME on SEAT 0 fits, or does not fit, a KNIGHT of that RENOWN and HOUSE. */
    private static void fits(String name, String knight, boolean want) {
        PerilSeat x = Checks.told("table 3;peril 2 0;" + name + ";" + knight);
        C.due(name + " fits " + knight, x.as(0, 0), want ? 7 : 6);
        C.due(name + " fits him", x.seatAs(0, 0), want ? 1 : 0);
        x.sit(0, 0);
        C.due(knight + " wrong on " + name, x.feast(), want ? 0 : 1);
    }

    private static void openFits() {
        C.sentence(0, "A NAME fits a KNIGHT: OPEN each one;");
        for (String kind : new String[] {"knight", "squire", "king"}) {
            fits("peace", kind + " 0 0", true);
            fits("peace", kind + " 9 9", true);
        }
    }

    private static void goldFits() {
        C.sentence(0, "GOLD whose RENOWN is no less than its NUMBER;");
        for (int number = 0; number <= 9; number++) {
            for (int renown = 0; renown <= 9; renown++) {
                fits("gold 0 " + number, "knight " + renown + " " + number, renown >= number);
            }
            fits("gold 0 " + number, "squire " + number + " 0", true);
        }
        fits("gold 0 9", "squire 8 9", false);
    }

    private static void meekFits() {
        C.sentence(0, "MEEK whose RENOWN is no more;");
        for (int number = 0; number <= 9; number++) {
            for (int renown = 0; renown <= 9; renown++) {
                fits("meek 0 " + number, "knight " + renown + " " + number, renown <= number);
            }
            fits("meek 0 " + number, "squire " + number + " 9", true);
        }
        fits("meek 0 0", "squire 1 0", false);
    }

    private static void kinFits() {
        C.sentence(0, "KIN whose HOUSE it is;");
        for (int number = 0; number <= 9; number++) {
            for (int house = 0; house <= 9; house++) {
                fits("kin 0 " + number, "knight " + number + " " + house, house == number);
            }
            fits("kin 0 " + number, "squire 0 " + number, true);
        }
    }

    private static void mourningFits() {
        C.sentence(0, "MOURNING nobody.");
        for (String kind : new String[] {"knight", "squire", "king"}) {
            fits("mourning 0", kind + " 0 0", false);
            fits("mourning 0", kind + " 9 9", false);
        }
        fits("mourning 0", "knight 5 5;meant 0", false);
    }

    private static void kings() {
        C.sentence(0, "A KING is fitted by each NAME but MOURNING.");
        fits("gold 0 9", "king 0 0", true);
        fits("meek 0 0", "king 9 9", true);
        fits("kin 0 0", "king 9 9", true);
        fits("peace", "king 0 0", true);
        fits("mourning 0", "king 9 0", false);
    }

    private static void kindsOfKnights() {
        C.sentence(0, "KINDS of KNIGHTS are over one another: ONE (0); KNIGHT (1) under it; SQUIRE (2) is ONE; KING (3) is a "
            + "KNIGHT.");
        PerilSeat x = Checks.told("table 3;knight 1 1;squire 1 1;king 1 1");
        int[][] due = {{7, 7, N, N}, {7, N, 7, N}, {7, 7, N, 7}};
        for (int knight = 0; knight < 3; knight++) {
            for (int kind = 0; kind <= 3; kind++) {
                C.due(knight + " as " + kind, x.as(knight, kind), due[knight][kind]);
            }
        }
    }

    private static void kindsOfNames() {
        C.sentence(0, "KINDS of NAMES: NAME (0); OPEN (1) under it; GOLD (2) is OPEN; MEEK (3) is OPEN; KIN (4) is a NAME; "
            + "MOURNING (5) is a NAME.");
        PerilSeat x = Checks.told("table 5;gold 1 1;meek 2 1;kin 3 1;mourning 4;knight 1 1;knight 1 1");
        int[][] due = {{3, 3, N, N, N, N}, {3, 3, 3, N, N, N}, {3, 3, N, 3, N, N}, {3, N, N, N, 3, N}, {0, N, N, N, N, 0}};
        for (int seat = 0; seat < 5; seat++) {
            for (int kind = 0; kind <= 5; kind++) {
                C.due(seat + " as " + kind, x.seatAs(seat, kind), due[seat][kind]);
            }
        }
    }

    private static void seat() {
        C.sentence(6, "Of a SEAT: KIND of its NAME (what 0), NUMBER (1), who sits on it (2; NONE), 1 THE PERIL is on it, 0 "
            + "(3).");
        PerilSeat x = open();
        int[][] due = {{0, 0, 1, 0}, {1, 5, NONE, 0}, {2, 4, NONE, 1}, {3, 9, NONE, 0}, {4, 0, NONE, 0}};
        for (int seat = 0; seat < 5; seat++) {
            for (int what = 0; what <= 3; what++) {
                C.due("of " + seat + ", " + what, x.seat(seat, what), due[seat][what]);
            }
        }
        x.sit(0, 4);
        C.due("knight 0 sits on the last", x.seat(4, 2), 0);
        x.rise();
        C.due("nobody sits on it", x.seat(4, 2), NONE);
    }

    private static void seatRefused() {
        C.sentence(6, "UNKNOWN; OUTSIDE.");
        C.refused("seat -1", EdgesOfToldTest::open, x -> x.seat(-1, 0), U);
        C.refused("seat 5", EdgesOfToldTest::open, x -> x.seat(5, 3), U);
        C.refused("seat 5, what 4", EdgesOfToldTest::open, x -> x.seat(5, 4), U);
        C.refused("what -1", EdgesOfToldTest::open, x -> x.seat(4, -1), O);
        C.refused("what 4", EdgesOfToldTest::open, x -> x.seat(0, 4), O);
        for (int far : FAR) {
            C.refused("seat " + far, EdgesOfToldTest::open, x -> x.seat(far, far), U);
            C.refused("what " + far, EdgesOfToldTest::open, x -> x.seat(0, far), O);
        }
        C.refused("no seats", x -> { }, x -> x.seat(0, 0), U);
    }

    private static void knight() {
        C.sentence(7, "Of a KNIGHT: KIND (what 0), RENOWN (1), HOUSE (2), ENEMIES, by bits (3), 1 he is there, 0 (4), NEWS that "
            + "he knows, by bits (5), his SEAT (6; NONE).");
        PerilSeat x = open();
        int[][] due = {{0, 5, 0, 8, 1, 1, NONE}, {1, 4, 9, 0, 1, 0, 0}, {2, 0, 0, 0, 1, 0, NONE}, {0, 5, 5, 1, 0, 0, NONE}};
        for (int knight = 0; knight < 4; knight++) {
            for (int what = 0; what <= 6; what++) {
                C.due("of " + knight + ", " + what, x.knight(knight, what), due[knight][what]);
            }
        }
        for (int news = 0; news <= 3; news++) {
            x.tell(2, news);
        }
        C.due("all news", x.knight(2, 5), 15);
        x.sit(2, 4);
        C.due("the last seat", x.knight(2, 6), 4);
    }

    private static void knightRefused() {
        C.sentence(7, "UNKNOWN; OUTSIDE.");
        C.refused("knight -1", EdgesOfToldTest::open, x -> x.knight(-1, 0), U);
        C.refused("knight 4", EdgesOfToldTest::open, x -> x.knight(4, 6), U);
        C.refused("knight 4, what 7", EdgesOfToldTest::open, x -> x.knight(4, 7), U);
        C.refused("what -1", EdgesOfToldTest::open, x -> x.knight(3, -1), O);
        C.refused("what 7", EdgesOfToldTest::open, x -> x.knight(0, 7), O);
        for (int far : FAR) {
            C.refused("knight " + far, EdgesOfToldTest::open, x -> x.knight(far, far), U);
            C.refused("what " + far, EdgesOfToldTest::open, x -> x.knight(0, far), O);
        }
        C.refused("no knights", x -> Checks.table(x, "table 8"), x -> x.knight(0, 0), U);
    }

    private static void as() {
        C.sentence(8, "A KNIGHT taken as a KIND (0 .. 3, as they are over one another; he answers as what he is, whatever he is "
            + "taken as): SEATS whose NAME fits him, by bits.");
        PerilSeat x = open();
        C.due("as ONE", x.as(0, 0), 3);
        C.due("as a KNIGHT", x.as(0, 1), 3);
        C.due("a squire as ONE", x.as(1, 0), 13);
        C.due("a squire as SQUIRE", x.as(1, 2), 13);
        C.due("a king as ONE is a king", x.as(2, 0), 15);
        C.due("a king as a KNIGHT is a king", x.as(2, 1), 15);
        C.due("a king as KING", x.as(2, 3), 15);
        C.due("who is not there", x.as(3, 1), 3);
        C.due("all of eight seats", Checks.told("table 8;knight 1 1").as(0, 0), 255);
        C.due("the peril on it does not matter", Checks.told("table 3;knight 1 1;peril 1 0").as(0, 0), 7);
        C.due("no seats", Checks.told("king 9 9").as(0, 3), 0);
        PerilSeat grown = Checks.told("table 3;gold 0 5;meek 1 4;knight 4 4;peril 2 0");
        C.due("by his renown as told", grown.as(0, 1), 6);
        grown.sit(0, 1);
        grown.feast();
        C.due("by his renown as it is now", grown.as(0, 1), 5);
    }

    private static void asRefused() {
        C.sentence(8, "UNKNOWN; OUTSIDE; NOT: he is none such.");
        C.refused("knight -1", EdgesOfToldTest::open, x -> x.as(-1, 0), U);
        C.refused("knight 4", EdgesOfToldTest::open, x -> x.as(4, 4), U);
        C.refused("kind -1", EdgesOfToldTest::open, x -> x.as(0, -1), O);
        C.refused("kind 4", EdgesOfToldTest::open, x -> x.as(3, 4), O);
        C.refused("a knight is no squire", EdgesOfToldTest::open, x -> x.as(0, 2), N);
        C.refused("a knight is no king", EdgesOfToldTest::open, x -> x.as(0, 3), N);
        C.refused("a squire is no knight", EdgesOfToldTest::open, x -> x.as(1, 1), N);
        C.refused("a squire is no king", EdgesOfToldTest::open, x -> x.as(1, 3), N);
        C.refused("a king is no squire", EdgesOfToldTest::open, x -> x.as(2, 2), N);
        for (int far : FAR) {
            C.refused("knight " + far, EdgesOfToldTest::open, x -> x.as(far, 9), U);
            C.refused("kind " + far, EdgesOfToldTest::open, x -> x.as(1, far), O);
        }
    }

    private static void seatAs() {
        C.sentence(9, "A NAME taken as a KIND (0 .. 5): KNIGHTS who are there whom it fits, by bits.");
        PerilSeat x = open();
        C.due("open as NAME", x.seatAs(0, 0), 7);
        C.due("open as OPEN", x.seatAs(0, 1), 7);
        C.due("gold as OPEN is gold", x.seatAs(1, 1), 5);
        C.due("gold as GOLD, one is not there", x.seatAs(1, 2), 5);
        C.due("meek as NAME", x.seatAs(2, 0), 6);
        C.due("meek as MEEK", x.seatAs(2, 3), 6);
        C.due("kin as KIN", x.seatAs(3, 4), 6);
        C.due("mourning as MOURNING", x.seatAs(4, 5), 0);
        C.due("mourning as NAME", x.seatAs(4, 0), 0);
        C.due("all six", Checks.told("table 8" + ";knight 1 1".repeat(6)).seatAs(7, 0), 63);
        C.due("no knights", Checks.told("table 3").seatAs(2, 1), 0);
    }

    private static void seatAsRefused() {
        C.sentence(9, "UNKNOWN; OUTSIDE; NOT: it is none such.");
        C.refused("seat -1", EdgesOfToldTest::open, x -> x.seatAs(-1, 0), U);
        C.refused("seat 5", EdgesOfToldTest::open, x -> x.seatAs(5, 6), U);
        C.refused("kind -1", EdgesOfToldTest::open, x -> x.seatAs(0, -1), O);
        C.refused("kind 6", EdgesOfToldTest::open, x -> x.seatAs(4, 6), O);
        C.refused("open is no gold", EdgesOfToldTest::open, x -> x.seatAs(0, 2), N);
        C.refused("gold is not meek", EdgesOfToldTest::open, x -> x.seatAs(1, 3), N);
        C.refused("meek is no gold", EdgesOfToldTest::open, x -> x.seatAs(2, 2), N);
        C.refused("kin is not open", EdgesOfToldTest::open, x -> x.seatAs(3, 1), N);
        C.refused("mourning is not open", EdgesOfToldTest::open, x -> x.seatAs(4, 1), N);
        C.refused("mourning is no kin", EdgesOfToldTest::open, x -> x.seatAs(4, 4), N);
        for (int far : FAR) {
            C.refused("seat " + far, EdgesOfToldTest::open, x -> x.seatAs(far, 9), U);
            C.refused("kind " + far, EdgesOfToldTest::open, x -> x.seatAs(1, far), O);
        }
    }

    private static void count() {
        C.sentence(28, "0 SEATS, 1 KNIGHTS, 2 the DAY, 3 where THE PERIL is (NONE: no SEATS), 4 those who are there, by bits, 5 "
            + "who sits, by bits, 6 SEEN, 7 pairs of ENEMIES, 8 how many can be undone, 9 letters of THE TEXT.");
        PerilSeat x = open();
        x.sit(2, 3);
        x.seen(0, 0, 1, 1);
        x.seen(0, 0, 0, 0);
        Checks.write(x, "peace");
        int[] due = {5, 4, 1, 2, 7, 6, 2, 1, 5, 5};
        for (int what = 0; what < due.length; what++) {
            C.due("count " + what, x.count(what), due[what]);
        }
        C.due("no seats, but knights", Checks.told("knight 1 1").count(3), NONE);
        for (int more = 0; more < 9; more++) {
            x.rise();
            x.seen(0, 0, 0, 0);
        }
        C.due("eight can be undone", x.count(8), 8);
        C.due("eight are seen", x.count(6), 8);
        x.forget();
        C.due("none is seen", x.count(6), 0);
        x.erase();
        C.due("no letters", x.count(9), 0);
        x.keep(0);
        x.back(0);
        C.due("none can be undone", x.count(8), 0);
    }

    private static void countRefused() {
        C.sentence(28, "OUTSIDE.");
        C.refused("count -1", EdgesOfToldTest::open, x -> x.count(-1), O);
        C.refused("count 10", EdgesOfToldTest::open, x -> x.count(10), O);
        for (int far : FAR) {
            C.refused("count " + far, EdgesOfToldTest::open, x -> x.count(far), O);
        }
    }
}

/** What stands ahead of the promises of SEATS, NAMES, KNIGHTS, ENEMIES and THE PERIL: each bound, and the ring's wrap. */
public final class EdgesOfTableTest {
    private static final Checks C = new Checks();
    private static final int NONE = PerilSeat.NONE, U = PerilSeat.UNKNOWN;
    private static final String[] NAMES = {"gold", "meek", "kin"};
    private static final String[] KNIGHTS = {"knight", "squire", "king"};

    public static void main(String[] args) {
        lastCalls();
        fewestSeats();
        mostSeats();
        ring();
        names();
        knights();
        kindsOfKnights();
        renown();
        house();
        enemies();
        peril();
        perilRoundTheRing();
        perilAtFirst();
        C.end();
    }

    private static void fault(String text, int want) {
        C.due("fault of \"" + text + "\"", Checks.fault(new PerilSeat(), text), want);
    }

    /** 28 letters, table(), 240 FEASTS of two calls each: the 510th to the 512th call are looked at. */
    private static void lastCalls() {
        C.sentence(0, "An object is used for at most 512 calls after it has been made; what later calls answer is free.");
        PerilSeat x = new PerilSeat();
        Checks.write(x, "table 7;squire 0 0;peril 1 5");
        x.table();
        for (int feast = 0; feast < 240; feast++) {
            x.sit(0, feast % 7);
            x.feast();
        }
        C.due("call 510, the day", x.count(2), 240);
        C.due("call 511, the peril", x.count(3), (1 + 5 * 240) % 7);
        C.due("call 512, his renown", x.knight(0, 1), 9);
    }

    private static void fewestSeats() {
        C.sentence(0, "SEATS are 0 .. n less 1 in a ring (n 3 ..");
        for (int n = 0; n <= 2; n++) {
            fault("table " + n, 6);
        }
        for (int n = 3; n <= 8; n++) {
            PerilSeat x = Checks.told("table " + n);
            C.due("how many of " + n, x.count(0), n);
            C.due("below the first of " + n, x.seat(-1, 0), U);
            C.due("the first of " + n, x.seat(0, 0), 0);
            C.due("the last of " + n, x.seat(n - 1, 0), 0);
            C.due("behind the last of " + n, x.seat(n, 0), U);
            fault("table " + n + ";mourning " + (n - 1), NONE);
            fault("table " + n + ";mourning " + n, 17);
        }
    }

    private static void mostSeats() {
        C.sentence(0, "8; none at first): behind the last one comes 0.");
        fault("table 8", NONE);
        for (int n = 9; n <= 99; n++) {
            fault("table " + n, 6);
        }
        PerilSeat x = new PerilSeat();
        C.due("none at first", x.count(0), 0);
        C.due("not one at first", x.seat(0, 0), U);
        C.due("no seat to name at first", Checks.fault(x, "mourning 0"), 9);
    }

    private static void ring() {
        C.sentence(0, "behind the last one comes 0.");
        for (int n = 3; n <= 8; n++) {
            int last = n - 1;
            PerilSeat x = Checks.told("table " + n + ";peril " + last + " 1;squire 5 1;squire 5 2;enemies 0 1");
            x.tell(0, 1);
            x.tell(1, 0);
            x.sit(0, last);
            x.sit(1, 0);
            C.due("they are neighbours of " + n, x.judge(1), 1);
            C.due("neither is wrong", x.feast(), 0);
            C.due("the peril is on 0 of " + n, x.count(3), 0);
            C.due("he on the last hears of 0", x.knight(0, 5), 3);
            C.due("he on 0 does not hear of the last", x.knight(1, 5), 1);
            C.due("he on the last had an enemy beside him", x.knight(0, 1), 4);
            C.due("he on 0 had too", x.knight(1, 1), 4);
        }
    }

    private static void names() {
        C.sentence(0, "Each has a NAME, of a KIND, 0 OPEN (at first), 1 GOLD, 2 MEEK, 3 KIN, 4 MOURNING, with a NUMBER "
            + "(0 .. 9; 0 at first).");
        PerilSeat x = Checks.told("table 5;gold 1 9;meek 2 9;kin 3 9;mourning 4");
        int[] numbers = {0, 9, 9, 9, 0};
        for (int seat = 0; seat < 5; seat++) {
            C.due("kind of " + seat, x.seat(seat, 0), seat);
            C.due("number of " + seat, x.seat(seat, 1), numbers[seat]);
        }
        for (int i = 0; i < NAMES.length; i++) {
            String text = "table 3;" + NAMES[i] + " 2 ";
            C.due(NAMES[i] + " 0", Checks.told(text + 0).seat(2, 1), 0);
            C.due("its kind", Checks.told(text + 0).seat(2, 0), i + 1);
            C.due(NAMES[i] + " 9", Checks.told(text + 9).seat(2, 1), 9);
            fault(text + 10, text.length());
            fault(text + 99, text.length());
        }
    }

    private static void knights() {
        C.sentence(0, "KNIGHTS are 0, 1 .. as they come, 6 at most (none at first)");
        PerilSeat x = new PerilSeat();
        C.due("none at first", x.count(1), 0);
        C.due("not one at first", x.knight(0, 0), U);
        C.due("nobody is there at first", x.count(4), 0);
        for (int come = 1; come <= 6; come++) {
            C.due("one more", Checks.table(x, "knight " + come + " 0"), 1);
            C.due("how many", x.count(1), come);
            C.due("he is the last", x.knight(come - 1, 1), come);
            C.due("behind the last", x.knight(come, 1), U);
            C.due("all are there", x.count(4), (1 << come) - 1);
        }
        C.due("below the first", x.knight(-1, 0), U);
        for (int knight = 0; knight < 6; knight++) {
            C.due("as they came, " + knight, x.knight(knight, 1), knight + 1);
        }
        C.due("a seventh", Checks.fault(x, "knight 7 0"), 0);
    }

    private static void kindsOfKnights() {
        C.sentence(0, "of a KIND, 0 KNIGHT, 1 SQUIRE, 2 KING");
        for (int kind = 0; kind < 3; kind++) {
            C.due(KNIGHTS[kind], Checks.told(KNIGHTS[kind] + " 1 1").knight(0, 0), kind);
        }
    }

    private static void renown() {
        C.sentence(0, "of RENOWN (0 .. 9)");
        for (String knight : KNIGHTS) {
            C.due(knight + " 0", Checks.told(knight + " 0 5").knight(0, 1), 0);
            C.due(knight + " 9", Checks.told(knight + " 9 5").knight(0, 1), 9);
            fault(knight + " 10 5", knight.length() + 1);
        }
    }

    private static void house() {
        C.sentence(0, "of a HOUSE (0 .. 9)");
        for (String knight : KNIGHTS) {
            C.due(knight + " of 0", Checks.told(knight + " 5 0").knight(0, 2), 0);
            C.due(knight + " of 9", Checks.told(knight + " 5 9").knight(0, 2), 9);
            fault(knight + " 5 10", knight.length() + 3);
        }
    }

    private static void enemies() {
        C.sentence(0, "Some are ENEMIES (none at first).");
        C.due("none at first", new PerilSeat().count(7), 0);
        PerilSeat x = Checks.told("table 8" + ";knight 1 1".repeat(6));
        C.due("no pair", x.count(7), 0);
        C.due("nobody's", x.knight(0, 3) | x.knight(5, 3), 0);
        Checks.table(x, "enemies 0 1;enemies 0 2;enemies 0 3;enemies 0 4;enemies 0 5;enemies 1 2;enemies 1 3");
        Checks.table(x, "enemies 1 4;enemies 1 5;enemies 2 3;enemies 2 4;enemies 2 5;enemies 3 4;enemies 3 5;enemies 5 4");
        C.due("all pairs there can be", x.count(7), 15);
        for (int knight = 0; knight < 6; knight++) {
            C.due("all but himself, " + knight, x.knight(knight, 3), 63 - (1 << knight));
        }
    }

    private static void peril() {
        C.sentence(0, "THE PERIL is on a SEAT on DAY 0, goes on by a STEP (0 .. 7) SEATS each night, is meant for one "
            + "KNIGHT, or none");
        fault("table 3;peril 0 0", NONE);
        fault("table 3;peril 2 7", NONE);
        fault("table 3;peril 3 7", 14);
        fault("table 3;peril 2 8", 16);
        fault("table 8;peril 7 8", 16);
        fault("table 8;peril 8 7", 14);
        PerilSeat x = Checks.told("table 4;peril 3 0;knight 1 1;knight 1 1;meant 0;meant 1");
        C.due("on the last", x.count(3), 3);
        x.sit(0, 3);
        C.due("it is meant for one alone, the other is wrong", x.judge(0), 1);
        x.rise();
        x.sit(1, 3);
        C.due("he is not", x.feast(), 0);
        C.due("by 0 it stays", x.count(3), 3);
    }

    private static void perilRoundTheRing() {
        C.sentence(0, "goes on by a STEP (0 .. 7) SEATS each night");
        for (int n = 3; n <= 8; n++) {
            for (int step = 0; step <= 7; step++) {
                PerilSeat x = Checks.told("table " + n + ";squire 1 1;peril " + (n - 1) + " " + step);
                for (int day = 0; day <= 9; day++) {
                    int where = (n - 1 + step * day) % n;
                    C.due("on day " + day + " by " + step + " of " + n, x.count(3), where);
                    C.due("it is on that seat", x.seat(where, 3), 1);
                    C.due("it is not on the next", x.seat((where + 1) % n, 3), 0);
                    x.sit(0, 0);
                    x.feast();
                }
            }
        }
    }

    private static void perilAtFirst() {
        C.sentence(0, "(on 0, by 0, for none at first).");
        C.due("nowhere without seats", new PerilSeat().count(3), NONE);
        PerilSeat x = Checks.told("table 3;knight 1 1;knight 1 1");
        C.due("on 0", x.count(3), 0);
        x.sit(1, 0);
        C.due("not for the last", x.judge(0), 2);
        x.rise();
        x.sit(0, 0);
        C.due("not for the first", x.feast(), 1);
        C.due("by 0", x.count(3), 0);
    }
}

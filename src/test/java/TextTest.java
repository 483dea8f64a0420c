/** Promises 1 to 5: a new object, THE TEXT, its FAULT, what its CLAUSES do. */
public final class TextTest {
    private static final Checks C = new Checks();
    private static final String FULL_TABLE = "table 8;knight 1 1;knight 2 2;squire 3 3;king 4 4;knight 5 5;knight 6 6";

    public static void main(String[] args) {
        newObject();
        writeAndErase();
        faultsOfForm();
        faultsOfNumbers();
        faultsOfKnightsAndSeats();
        faultsOneAfterAnother();
        clauses();
        laterTexts();
        tableWithFault();
        C.end();
    }

    private static void newObject() {
        PerilSeat x = new PerilSeat();
        int[] counts = {0, 0, 0, PerilSeat.NONE, 0, 0, 0, 0, 0, 0};
        for (int what = 0; what < counts.length; what++) {
            C.due("new count " + what, x.count(what), counts[what]);
        }
        C.due("new seat", x.seat(0, 0), PerilSeat.UNKNOWN);
        C.due("new knight", x.knight(0, 0), PerilSeat.UNKNOWN);
        C.due("new undo", x.undo(), PerilSeat.NOT);
        C.due("new back", x.back(0), PerilSeat.NOT);
        C.due("new seatings", x.seatings(), 1);
        C.due("new worlds", x.worlds(0), 0);
    }

    private static void writeAndErase() {
        PerilSeat x = new PerilSeat();
        C.due("write -1", x.write(-1), PerilSeat.OUTSIDE);
        C.due("write 256", x.write(256), PerilSeat.OUTSIDE);
        C.due("write 0", x.write(0), 1);
        C.due("write 255", x.write(255), 2);
        C.due("letters", x.count(9), 2);
        C.due("erase", x.erase(), 2);
        C.due("erase an empty one", x.erase(), 0);
        for (int i = 1; i <= 160; i++) {
            C.due("write the " + i + "th", x.write(' '), i);
        }
        C.due("write the 161st", x.write('a'), PerilSeat.FULL);
        C.due("OUTSIDE ahead of FULL", x.write(256), PerilSeat.OUTSIDE);
        C.due("a full text's letters", x.count(9), 160);
        C.due("a full text of blanks", x.fault(), 160);
        C.due("erase a full one", x.erase(), 160);
        Checks.write(x, "peace" + " ".repeat(155));
        C.due("a full text", x.fault(), PerilSeat.NONE);
        C.due("a full text's table", x.table(), 1);
        C.due("it is empty then", x.count(9), 0);
    }

    private static void fault(String text, int want) {
        C.due("fault of \"" + text + "\"", Checks.fault(new PerilSeat(), text), want);
    }

    private static void faultsOfForm() {
        fault("", 0);
        fault("   ", 3);
        fault("peace", PerilSeat.NONE);
        fault("  peace  ;  peace  ", PerilSeat.NONE);
        fault("peace;", 6);
        fault("peace; ", 7);
        fault(";peace", 0);
        fault("peace;;peace", 6);
        fault("peace peace", 6);
        fault("peace 1", 6);
        fault("peace.", 5);
        fault("peacetable 3", 0);
        fault("Peace", 0);
        fault("peAce", 0);
        fault("pea ce", 0);
        fault("peacez", 0);
        fault("peace{", 5);
        fault("peace`", 5);
        fault("table 3/", 7);
        fault("table 3:", 7);
        fault("5", 0);
        fault("peace;lance 3", 6);
        fault("peace\t", 5);
        fault("peace" + (char) 233, 5);
        fault("peace" + (char) 0, 5);
        fault("table", 5);
        fault("table ", 6);
        fault("table;", 5);
        fault("table x", 6);
        fault("table -3", 6);
        fault("table3", PerilSeat.NONE);
        fault("table3;gold0 9;mourning1", PerilSeat.NONE);
        fault("table 3knight 1 1", 7);
        fault("table 3 4", 8);
        fault("table 3;gold 0", 14);
        fault("table 3;gold 0 ", 15);
        fault("table 3;gold 0;", 14);
        fault("table 3;mourning 0 1", 19);
        String fourteen = "peace;".repeat(13) + "peace";
        fault(fourteen, PerilSeat.NONE);
        fault(fourteen + " ", PerilSeat.NONE);
        fault(fourteen + ";", 83);
        fault(fourteen + " ;peace", 84);
        fault(fourteen + " peace", 84);
    }

    private static void faultsOfNumbers() {
        fault("table 2", 6);
        fault("table 3", PerilSeat.NONE);
        fault("table 8", PerilSeat.NONE);
        fault("table 9", 6);
        fault("table 08", PerilSeat.NONE);
        fault("table 008", 6);
        fault("table 0", 6);
        fault("table 99999999999999999999", 6);
        String[] names = {"gold", "meek", "kin"};
        for (String name : names) {
            int at = 8 + name.length() + 1;
            fault("table 8;" + name + " 7 9", PerilSeat.NONE);
            fault("table 8;" + name + " 8 9", at);
            fault("table 8;" + name + " 7 10", at + 2);
            fault("table 8;" + name + " 007 9", at);
            fault("table 8;" + name + " 7 009", at + 2);
        }
        fault("table 8;mourning 7", PerilSeat.NONE);
        fault("table 8;mourning 8", 17);
        String[] knights = {"knight", "squire", "king"};
        for (String knight : knights) {
            int at = knight.length() + 1;
            fault(knight + " 9 9", PerilSeat.NONE);
            fault(knight + " 09 00", PerilSeat.NONE);
            fault(knight + " 10 9", at);
            fault(knight + " 9 10", at + 2);
        }
        fault("table 3;peril 2 7", PerilSeat.NONE);
        fault("table 3;peril 3 7", 14);
        fault("table 3;peril 2 8", 16);
    }

    private static void faultsOfKnightsAndSeats() {
        fault("gold 0 1", 5);
        fault("mourning 0", 9);
        fault("peril 0 0", 6);
        fault("meant 0", 6);
        fault("enemies 0 1", 8);
        fault("knight 1 1;meant 0", PerilSeat.NONE);
        fault("knight 1 1;meant 1", 17);
        fault("meant 0;knight 1 1", 6);
        fault("knight 1 1;knight 1 1;enemies 0 1", PerilSeat.NONE);
        fault("knight 1 1;knight 1 1;enemies 1 1", 32);
        fault("knight 1 1;knight 1 1;enemies 0 2", 32);
        fault("knight 1 1;knight 1 1;enemies 2 0", 30);
        fault("knight 1 1;table 3;meant 0", 25);
        fault("table 8;table 3;gold 3 1", 21);
        fault(FULL_TABLE, PerilSeat.NONE);
        int seventh = FULL_TABLE.length() + 1;
        fault(FULL_TABLE + ";knight 1 1", seventh);
        fault(FULL_TABLE + "; squire 1 1", seventh + 1);
        fault(FULL_TABLE + ";king", seventh);
        fault(FULL_TABLE + ";table 3;king 1 1", PerilSeat.NONE);
        fault(FULL_TABLE + ";enemies 0 5", PerilSeat.NONE);
        fault(FULL_TABLE + ";meant 5", PerilSeat.NONE);
        fault(FULL_TABLE + ";meant 6", seventh + 6);
    }

    /** A text that is only read, or erased, leaves nothing for the next one. */
    private static void faultsOneAfterAnother() {
        PerilSeat x = Checks.told("table 3;knight 1 1");
        C.due("only read", Checks.fault(x, "table 8;knight 1 1;knight 1 1"), PerilSeat.NONE);
        C.due("there are 3 seats yet", Checks.fault(x, "gold 3 1"), 5);
        C.due("there is 1 knight yet", Checks.fault(x, "meant 1"), 6);
        C.due("the others are there", Checks.fault(x, "gold 2 1;meant 0"), PerilSeat.NONE);
        Checks.fault(x, ";knight 1 1".repeat(5).substring(1));
        C.due("five more can come", Checks.fault(x, ";knight 1 1".repeat(5).substring(1)), PerilSeat.NONE);
        C.due("six more cannot", Checks.fault(x, ";knight 1 1".repeat(6).substring(1)), 55);
    }

    private static void clauses() {
        PerilSeat x = new PerilSeat();
        C.due("clauses", Checks.table(x, "table 5;gold 1 5;meek 2 3;kin 3 7;mourning 4;knight 4 7;squire 6 2;king 0 1;"
            + "enemies 0 2;peril 4 3;meant 1"), 11);
        int[][] names = {{0, 0}, {1, 5}, {2, 3}, {3, 7}, {4, 0}};
        for (int seat = 0; seat < 5; seat++) {
            C.due("kind of name " + seat, x.seat(seat, 0), names[seat][0]);
            C.due("number of name " + seat, x.seat(seat, 1), names[seat][1]);
        }
        int[][] knights = {{0, 4, 7, 4, 1, 0, -1}, {1, 6, 2, 0, 1, 0, -1}, {2, 0, 1, 1, 1, 0, -1}};
        for (int knight = 0; knight < 3; knight++) {
            for (int what = 0; what <= 6; what++) {
                C.due("knight " + knight + " " + what, x.knight(knight, what), knights[knight][what]);
            }
        }
        C.due("pairs", x.count(7), 1);
        C.due("peril", x.count(3), 4);
        x.sit(1, 4);
        x.sit(0, 0);
        C.due("mourning takes even whom it is meant for", x.feast(), 2);
        C.due("peril goes on", x.count(3), 2);

        PerilSeat y = Checks.told("table 3;gold 1 5;mourning 1");
        C.due("a later name stands", y.seat(1, 0), 4);
        C.due("a name without a number", y.seat(1, 1), 0);
        PerilSeat z = Checks.told("table 3;knight 1 1;knight 1 1;knight 1 1;enemies 0 1;enemies 1 0;enemies 1 2");
        C.due("pairs are counted once", z.count(7), 2);
        Checks.table(z, "peace");
        C.due("peace", z.count(7), 0);
    }

    private static void laterTexts() {
        PerilSeat x = Checks.told("table 4;gold 1 5;knight 9 7;knight 0 2;enemies 0 1;peril 3 1;meant 1");
        x.tell(0, 2);
        x.sit(0, 0);
        x.sit(1, 1);
        x.seen(0, 1, 0, 1);
        x.keep(0);
        C.due("taken", x.feast(), 2);
        x.sit(0, 2);
        C.due("ahead of the text: renown", x.knight(0, 1), 8);
        C.due("a later text", Checks.table(x, "king 3 3; meek 0 4"), 2);
        C.due("seats stay", x.count(0), 4);
        C.due("names stay", x.seat(1, 1), 5);
        C.due("a new name", x.seat(0, 0), 2);
        C.due("knights stay", x.count(1), 3);
        C.due("enemies stay", x.count(7), 1);
        C.due("peril stays", x.count(3), 3);
        C.due("day 0", x.count(2), 0);
        C.due("all are there", x.count(4), 7);
        C.due("renown as told", x.knight(0, 1), 9);
        C.due("renown as told", x.knight(1, 1), 0);
        C.due("no news", x.knight(0, 5), 0);
        C.due("nobody sits", x.count(5), 0);
        C.due("nothing seen", x.count(6), 0);
        C.due("nothing kept", x.back(0), PerilSeat.NOT);
        C.due("nothing to undo", x.undo(), PerilSeat.NOT);
        x.sit(1, 3);
        C.due("meant stays", x.judge(0), 0);

        Checks.table(x, "table 6");
        for (int seat = 0; seat < 6; seat++) {
            C.due("all open", x.seat(seat, 0), 0);
            C.due("all open, 0", x.seat(seat, 1), 0);
        }
        C.due("no knights", x.count(1), 0);
        C.due("nobody there", x.count(4), 0);
        C.due("no enemies", x.count(7), 0);
        C.due("peril on 0", x.count(3), 0);
        Checks.table(x, "knight 1 1;knight 1 1");
        C.due("no old enemies", x.knight(0, 3), 0);
        x.sit(1, 0);
        C.due("for none, and by 0", x.feast(), 2);
        C.due("by 0", x.count(3), 0);
    }

    private static void tableWithFault() {
        PerilSeat x = Checks.told("table 4;knight 5 5;knight 1 1");
        x.sit(0, 1);
        x.tell(1, 1);
        x.keep(1);
        x.seen(0, 0, 0, 0);
        Checks.write(x, "table 3;king 1 1;king");
        String was = Checks.state(x);
        C.due("a fault", x.fault(), 21);
        C.due("NOT", x.table(), PerilSeat.NOT);
        C.due("nothing changes", Checks.state(x), was);
        Checks.write(x, " 2 2");
        C.due("the text was kept", x.table(), 3);
        C.due("and is empty then", x.count(9), 0);
        C.due("empty again", x.table(), PerilSeat.NOT);
    }
}

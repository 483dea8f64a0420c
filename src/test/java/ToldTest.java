/** Promises 6 to 9 and 28: seat, knight, as, seatAs, count. */
public final class ToldTest {
    private static final Checks C = new Checks();
    private static final int U = PerilSeat.UNKNOWN, O = PerilSeat.OUTSIDE, N = PerilSeat.NOT;

    public static void main(String[] args) {
        seats();
        knights();
        knightsAsKinds();
        namesAsKinds();
        counts();
        C.end();
    }

    private static PerilSeat table() {
        return Checks.told("table 5;gold 1 5;meek 2 5;kin 3 7;mourning 4;knight 5 7;squire 6 2;king 0 1;knight 4 0;"
            + "enemies 0 1;enemies 3 0;peril 1 6");
    }

    private static void seats() {
        PerilSeat x = table();
        C.due("no seat -1", x.seat(-1, 0), U);
        C.due("no seat 5", x.seat(5, 0), U);
        C.due("UNKNOWN ahead of OUTSIDE", x.seat(5, 9), U);
        C.due("what -1", x.seat(0, -1), O);
        C.due("what 4", x.seat(0, 4), O);
        C.due("nobody", x.seat(3, 2), PerilSeat.NONE);
        x.sit(2, 3);
        C.due("who sits", x.seat(3, 2), 2);
        C.due("peril", x.seat(1, 3), 1);
        C.due("no peril", x.seat(2, 3), 0);
        x.feast();
        C.due("peril has gone on", x.seat(1, 3), 0);
        C.due("by 6 of 5", x.seat(2, 3), 1);
        C.due("all rose", x.seat(3, 2), PerilSeat.NONE);
    }

    private static void knights() {
        PerilSeat x = table();
        C.due("no knight -1", x.knight(-1, 0), U);
        C.due("no knight 4", x.knight(4, 0), U);
        C.due("UNKNOWN ahead of OUTSIDE", x.knight(4, 9), U);
        C.due("what -1", x.knight(0, -1), O);
        C.due("what 7", x.knight(0, 7), O);
        C.due("enemies of 0", x.knight(0, 3), 10);
        C.due("enemies of 3", x.knight(3, 3), 1);
        x.sit(0, 4);
        C.due("his seat", x.knight(0, 6), 4);
        x.tell(0, 3);
        x.tell(0, 0);
        C.due("news", x.knight(0, 5), 9);
        C.due("there", x.knight(0, 4), 1);
        C.due("taken", x.feast(), 1);
        C.due("there no more", x.knight(0, 4), 0);
        C.due("his renown stays", x.knight(0, 1), 5);
        C.due("his seat no more", x.knight(0, 6), PerilSeat.NONE);
        C.due("enemies stay", x.knight(3, 3), 1);
        C.due("kind", x.knight(2, 0), 2);
        C.due("house", x.knight(0, 2), 7);
    }

    private static void knightsAsKinds() {
        PerilSeat x = table();
        // By kinds of knights, what each of the four kinds answers.
        int[][] due = {{15, 15, N, N}, {3, N, 3, N}, {15, 15, N, 15}, {5, 5, N, N}};
        for (int knight = 0; knight < 4; knight++) {
            for (int kind = 0; kind < 4; kind++) {
                C.due("as " + knight + " " + kind, x.as(knight, kind), due[knight][kind]);
            }
        }
        C.due("no knight", x.as(4, 0), U);
        C.due("no knight", x.as(-1, 4), U);
        C.due("no kind", x.as(0, 4), O);
        C.due("no kind", x.as(0, -1), O);
        PerilSeat bare = Checks.told("king 9 9");
        C.due("no seats", bare.as(0, 3), 0);
    }

    private static void namesAsKinds() {
        PerilSeat x = table();
        int[][] due = {{15, 15, N, N, N, N}, {7, 7, 7, N, N, N}, {13, 13, N, 13, N, N}, {5, N, N, N, 5, N},
            {0, N, N, N, N, 0}};
        for (int seat = 0; seat < 5; seat++) {
            for (int kind = 0; kind < 6; kind++) {
                C.due("seatAs " + seat + " " + kind, x.seatAs(seat, kind), due[seat][kind]);
            }
        }
        C.due("no seat", x.seatAs(5, 0), U);
        C.due("no seat", x.seatAs(-1, 6), U);
        C.due("no kind", x.seatAs(0, 6), O);
        C.due("no kind", x.seatAs(0, -1), O);
        x.sit(0, 4);
        x.feast();
        C.due("only who is there", x.seatAs(0, 1), 14);
        C.due("who is taken is still fitted", x.as(0, 1), 15);
    }

    private static void counts() {
        PerilSeat x = table();
        Checks.write(x, "peace");
        x.sit(1, 0);
        x.sit(3, 4);
        x.seen(0, 0, 0, 1);
        int[] due = {5, 4, 0, 1, 15, 10, 1, 2, 2, 5};
        for (int what = 0; what < due.length; what++) {
            C.due("count " + what, x.count(what), due[what]);
        }
        C.due("count -1", x.count(-1), O);
        C.due("count 10", x.count(10), O);
        x.feast();
        int[] later = {5, 4, 1, 2, 7, 0, 1, 2, 3, 5};
        for (int what = 0; what < later.length; what++) {
            C.due("later count " + what, x.count(what), later[what]);
        }
        C.due("no seats, no peril", Checks.told("knight 1 1").count(3), PerilSeat.NONE);
    }
}

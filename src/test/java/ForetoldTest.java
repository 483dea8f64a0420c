/** Promises 17 to 21 and 27: seatings, seatOf, moved, knows, judge, lent. */
public final class ForetoldTest {
    private static final Checks C = new Checks();
    private static final int NONE = PerilSeat.NONE, U = PerilSeat.UNKNOWN, O = PerilSeat.OUTSIDE;

    public static void main(String[] args) {
        howMany();
        noneThere();
        oneGone();
        enemies();
        first();
        fewestMoved();
        mostKnow();
        judged();
        lentNames();
        nothingChanges();
        C.end();
    }

    private static void howMany() {
        C.due("nobody, nowhere", new PerilSeat().seatings(), 1);
        C.due("nobody", Checks.told("table 3").seatings(), 1);
        C.due("no seats", Checks.told("squire 1 1").seatings(), 0);
        C.due("one, not in peril", Checks.told("table 3;knight 1 1").seatings(), 2);
        C.due("one, meant", Checks.told("table 3;knight 1 1;meant 0").seatings(), 3);
        C.due("a squire", Checks.told("table 3;squire 1 1").seatings(), 3);
        C.due("three of three", Checks.told("table 3;squire 1 1;squire 1 1;squire 1 1").seatings(), 6);
        C.due("one too many", Checks.told("table 3;squire 1 1;squire 1 1;squire 1 1;squire 1 1").seatings(), 0);
        String six = ";squire 1 1".repeat(6);
        C.due("six of eight", Checks.told("table 8" + six).seatings(), 20160);
        C.due("gold", Checks.told("table 4;gold 1 2;gold 2 1;knight 1 1").seatings(), 2);
        C.due("meek", Checks.told("table 4;meek 1 0;meek 2 1;knight 1 1").seatings(), 2);
        C.due("kin", Checks.told("table 4;kin 1 3;kin 2 1;knight 1 1").seatings(), 2);
        C.due("a king", Checks.told("table 4;kin 1 3;gold 2 9;mourning 3;king 1 1").seatings(), 2);
    }

    private static void noneThere() {
        PerilSeat x = Checks.told("table 3;knight 1 1;knight 1 1");
        x.tell(0, 0);
        x.sit(0, 0);
        C.due("he is taken", x.feast(), 1);
        C.due("one left", x.seatings(), 2);
        C.due("who is not there", x.seatOf(0), NONE);
        C.due("the other", x.seatOf(1), 1);
        C.due("one must sit", x.moved(), 1);
        C.due("who is there knows nothing", x.knows(0), 0);
        x.sit(1, 0);
        C.due("he too", x.feast(), 2);
        C.due("the empty row", x.seatings(), 1);
        C.due("nobody moves", x.moved(), 0);
        C.due("nobody knows", x.knows(0), 0);
    }

    /** Who was taken is passed over, be he the first, one between, or the last. */
    private static void oneGone() {
        for (int gone = 0; gone < 3; gone++) {
            PerilSeat x = Checks.told("table 4;peril 0 0;knight 1 1;knight 2 2;knight 3 3;enemies 0 2;enemies 0 1");
            for (int k = 0; k < 3; k++) {
                x.tell(k, k);
            }
            x.sit(gone, 0);
            x.feast();
            C.due("two on three seats, " + gone + " gone", x.seatings(), gone == 0 ? 6 : 2);
            C.due("both are to sit", x.moved(), 2);
            C.due("he who is gone", x.knows(gone), 0);
            C.due("one who is there", x.knows((gone + 1) % 3), gone == 0 ? 2 : 1);
            int[] first = gone == 0 ? new int[] {NONE, 1, 2} : gone == 1 ? new int[] {1, NONE, 3} : new int[] {1, 3, NONE};
            for (int k = 0; k < 3; k++) {
                C.due("the first, " + gone + " gone", x.seatOf(k), first[k]);
            }
            x.sit((gone + 1) % 3, 2);
            C.due("one sits in the midst", x.moved(), gone == 0 ? 1 : 2);
        }
    }

    private static void enemies() {
        String two = "table 4;squire 1 1;squire 1 1";
        C.due("no enemies", Checks.told(two).seatings(), 12);
        C.due("only across", Checks.told(two + ";enemies 1 0").seatings(), 4);
        C.due("all are neighbours", Checks.told("table 3;squire 1 1;squire 1 1;enemies 0 1").seatings(), 0);
        PerilSeat x = Checks.told("table 3;knight 1 1;squire 1 1;enemies 0 1");
        C.due("none", x.seatOf(0), NONE);
        C.due("none", x.moved(), NONE);
        C.due("none", x.knows(0), NONE);
        x.sit(0, 0);
        x.feast();
        C.due("an enemy who is gone", x.seatings(), 3);
    }

    private static void first() {
        PerilSeat x = Checks.told("table 5;peril 0 2;gold 1 5;knight 1 1;knight 9 9;squire 5 5;enemies 0 1");
        C.due("of 0", x.seatOf(0), 2);
        C.due("of 1", x.seatOf(1), 4);
        C.due("of 2", x.seatOf(2), 0);
        C.due("no knight", x.seatOf(3), U);
        C.due("no knight", x.seatOf(-1), U);
        x.sit(2, 0);
        x.feast();
        C.due("the next day, of 0", x.seatOf(0), 0);
        C.due("the next day, of 1", x.seatOf(1), 3);
        C.due("the next day, of 2", x.seatOf(2), 1);
        // He who comes first must give way only where the others cannot sit otherwise.
        PerilSeat y = Checks.told("table 3;peril 2 0;gold 0 0;gold 1 9;knight 1 1;squire 1 1");
        C.due("of 0", y.seatOf(0), 0);
        C.due("of 1", y.seatOf(1), 2);
        PerilSeat z = Checks.told("table 3;mourning 2;meek 1 4;knight 1 1;knight 9 9;meant 1");
        C.due("not on 0, which the other needs", z.seatOf(0), 1);
        C.due("of 1", z.seatOf(1), 0);
    }

    private static void fewestMoved() {
        PerilSeat x = Checks.told("table 4;peril 0 0;knight 1 1;knight 2 2;knight 3 3");
        C.due("nobody sits", x.moved(), 3);
        x.sit(0, 1);
        C.due("one sits", x.moved(), 2);
        x.sit(1, 0);
        C.due("one sits wrong", x.moved(), 2);
        x.sit(2, 3);
        C.due("one is to move", x.moved(), 1);
        x.rise();
        x.sit(0, 2);
        x.sit(1, 3);
        x.sit(2, 1);
        C.due("all sit well", x.moved(), 0);
        C.due("six are to sit", Checks.told("table 8" + ";knight 1 1".repeat(6)).moved(), 6);
        PerilSeat zero = Checks.told("table 3;squire 1 1;squire 2 2;squire 3 3");
        zero.sit(0, 0);
        C.due("he may stay on 0", zero.moved(), 2);
        zero.sit(1, 2);
        C.due("and he on the last", zero.moved(), 1);
        zero.rise();
        zero.sit(1, 0);
        C.due("or the other on 0", zero.moved(), 2);
        zero.sit(0, 1);
        zero.sit(2, 2);
        C.due("all sit", zero.moved(), 0);
        C.due("none", Checks.told("table 3;mourning 0;mourning 1;mourning 2;king 1 1").moved(), NONE);
        C.due("no table", new PerilSeat().moved(), 0);
    }

    private static void mostKnow() {
        PerilSeat x = Checks.told("table 6;peril 0 0;knight 1 1;knight 2 2;knight 3 3;knight 4 4");
        C.due("nobody", x.knows(2), 0);
        x.tell(0, 2);
        C.due("he and one more", x.knows(2), 2);
        x.tell(2, 2);
        C.due("two and two", x.knows(2), 4);
        C.due("another news", x.knows(1), 0);
        C.due("no news", x.knows(-1), O);
        C.due("no news", x.knows(4), O);
        PerilSeat y = Checks.told("table 4;peril 0 0;knight 1 1;knight 9 9;gold 3 5;meek 1 5;mourning 2");
        y.tell(0, 0);
        y.tell(1, 1);
        C.due("they sit on 1 and 3", y.seatings(), 1);
        C.due("too far away", y.knows(0), 1);
        PerilSeat z = Checks.told("table 3;mourning 1;peril 1 0;squire 1 1;knight 9 9;gold 0 5");
        z.tell(0, 0);
        z.tell(1, 1);
        C.due("0 on 2, 1 on 0", z.seatings(), 1);
        C.due("he on 2 hears of 0, behind the last", z.knows(1), 2);
        C.due("he on 0 does not hear of 2", z.knows(0), 1);
        // Seats 0, 1, 3 by their houses: who knows on 0 and who on 1 make him on 3 and nobody else hear.
        PerilSeat ring = Checks.told("table 4;kin 0 1;kin 1 2;mourning 2;kin 3 4;peril 2 0;knight 0 1;knight 0 2;"
            + "knight 0 4");
        ring.tell(0, 0);
        C.due("0 is heard on 3", ring.knows(0), 2);
        ring.tell(1, 1);
        C.due("1 is heard on 0", ring.knows(1), 2);
        ring.tell(2, 2);
        C.due("3 is heard by nobody", ring.knows(2), 1);
        ring.tell(0, 3);
        ring.tell(1, 3);
        C.due("both and he on 3", ring.knows(3), 3);
        PerilSeat three = Checks.told("table 5;kin 0 1;kin 1 2;mourning 2;kin 3 3;kin 4 4;peril 2 0;knight 0 1;"
            + "knight 0 2;knight 0 3;knight 0 4");
        three.tell(0, 0);
        three.tell(3, 0);
        C.due("0 and 4 know, 3 hears of 4", three.knows(0), 3);
        three.tell(1, 1);
        three.tell(0, 1);
        C.due("0 and 1 know, 4 hears of 0", three.knows(1), 3);
        z.sit(0, 2);
        z.sit(1, 0);
        z.feast();
        C.due("so it came", z.knight(0, 5), 3);
        C.due("so it came", z.knight(1, 5), 1 << 1);
    }

    private static void judged() {
        PerilSeat x = Checks.told("table 5;peril 2 1;gold 0 5;mourning 4;knight 1 1;knight 5 5;squire 2 2;king 0 0;"
            + "enemies 0 1;enemies 1 2;enemies 0 3;enemies 2 3");
        C.due("nobody", x.judge(0), 0);
        C.due("no quarrel", x.judge(1), 0);
        x.sit(0, 0);
        x.sit(1, 1);
        x.sit(2, 2);
        x.sit(3, 4);
        C.due("wrong", x.judge(0), 9);
        C.due("quarrels", x.judge(1), 3);
        C.due("no such", x.judge(2), O);
        C.due("no such", x.judge(-1), O);
        x.rise();
        x.sit(3, 2);
        C.due("a king in peril", x.judge(0), 8);
    }

    private static void lentNames() {
        PerilSeat x = Checks.told("table 4;peril 0 0;mourning 1;gold 2 5;knight 1 1;knight 5 5");
        C.due("as told", x.seatings(), 1);
        C.due("open already", x.lent(3), 0);
        C.due("mourning", x.lent(1), 3);
        C.due("gold", x.lent(2), 1);
        C.due("the peril is on it", x.lent(0), 0);
        C.due("no seat", x.lent(4), U);
        C.due("no seat", x.lent(-1), U);
        C.due("the name stays", x.seat(1, 0), 4);
        C.due("the name stays", x.seatings(), 1);
        C.due("no table", new PerilSeat().lent(0), U);
    }

    private static void nothingChanges() {
        PerilSeat x = Checks.told("table 6;peril 1 1;knight 1 1;knight 5 5;squire 1 1;enemies 0 1;gold 2 4");
        x.tell(0, 0);
        x.sit(0, 5);
        x.seen(0, 0, 0, 0);
        String was = Checks.state(x);
        x.seatings();
        x.seatOf(1);
        x.moved();
        x.knows(0);
        x.judge(0);
        x.judge(1);
        x.lent(2);
        x.worlds(1);
        x.safest(0, 0);
        x.quests(0, 2, 5, 5, 0);
        C.due("nothing changes", Checks.state(x), was);
        C.due("nothing more to undo", x.count(8), 2);
    }
}

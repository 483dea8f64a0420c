/** What is FORETOLD, and promises 17 to 21 and 27: each bound, each refused call. */
public final class EdgesOfForetoldTest {
    private static final Checks C = new Checks();
    private static final int NONE = PerilSeat.NONE, U = PerilSeat.UNKNOWN, O = PerilSeat.OUTSIDE;
    private static final int[] FAR = {Integer.MIN_VALUE, Integer.MAX_VALUE, -2, 32, 64, 256};
    /** KNIGHTS 0 and 1 fit on SEATS 1 and 2 of three, where they would be NEIGHBOURS and are ENEMIES: no SEATING. */
    private static final String NO_SEATING = "table 3;knight 1 1;knight 1 1;enemies 0 1";

    public static void main(String[] args) {
        nothingChanges();
        whoIsThere();
        nobodyIsWrong();
        noNeighbours();
        first();
        movedFewest();
        movedNone();
        knowsMost();
        knowsNone();
        judged();
        quarrels();
        lentName();
        seatings();
        seatOf();
        seatOfRefused();
        moved();
        knows();
        knowsRefused();
        judge();
        judgeRefused();
        lent();
        lentRefused();
        C.end();
    }

    /** Two who sit, one who was TAKEN, one who is elsewhere. */
    private static void open(PerilSeat x) {
        Checks.table(x, "table 6;mourning 4;gold 5 3;peril 1 2;knight 5 5;squire 2 2;knight 1 1;king 7 7;enemies 0 1");
        x.keep(1);
        x.tell(0, 0);
        x.sit(2, 4);
        x.feast();
        x.sit(0, 0);
        x.sit(1, 1);
        x.seen(0, 0, 1, 0);
        x.write('p');
    }

    private static PerilSeat open() {
        PerilSeat x = new PerilSeat();
        open(x);
        return x;
    }

    private static String squires(int seats, int knights) {
        return "table " + seats + ";squire 1 1".repeat(knights);
    }

    private static void nothingChanges() {
        C.sentence(0, "FORETOLD (nothing changes).");
        PerilSeat x = open();
        x.seatings();
        for (int i = 0; i <= 3; i++) {
            x.seatOf(i);
            x.knows(i);
            x.lent(i);
            x.safest(i, 0);
        }
        x.moved();
        x.judge(0);
        x.judge(1);
        x.worlds(0);
        x.quests(0, 5, 8, 5, 0);
        C.due("asked of all", Calls.everything(x), Calls.everything(open()));
    }

    private static void whoIsThere() {
        C.sentence(0, "SEATINGS: rows in which all KNIGHTS who are there sit,");
        C.due("nobody, no seats", new PerilSeat().seatings(), 1);
        C.due("nobody, eight seats", Checks.told("table 8").seatings(), 1);
        C.due("one, no seats", Checks.told("squire 1 1").seatings(), 0);
        for (int seats = 3; seats <= 8; seats++) {
            int ways = 1;
            for (int knights = 0; knights <= 6; knights++) {
                C.due(knights + " on " + seats, Checks.told(squires(seats, knights)).seatings(), ways);
                ways *= seats - knights > 0 ? seats - knights : 0;
            }
        }
        for (int gone = 0; gone < 4; gone++) {
            PerilSeat x = Checks.told("table 3;mourning 0" + ";squire 1 1".repeat(4));
            C.due("four on two seats", x.seatings(), 0);
            x.sit(gone, 0);
            x.feast();
            C.due("three on two seats", x.seatings(), 0);
            x.sit((gone + 1) % 4, 0);
            x.feast();
            C.due("two on two seats", x.seatings(), 2);
            C.due("two are to sit", x.moved(), 2);
            x.tell((gone + 2) % 4, 0);
            C.due("who knows can sit on 2, where he on 1 hears him", x.knows(0), 2);
        }
    }

    private static void nobodyIsWrong() {
        C.sentence(0, "nobody is WRONG,");
        C.due("on three, one of peril", Checks.told("table 3;knight 1 1").seatings(), 2);
        C.due("for him", Checks.told("table 3;knight 1 1;meant 0").seatings(), 3);
        C.due("two, one of peril", Checks.told("table 3;knight 1 1;knight 1 1").seatings(), 2);
        C.due("three, one of peril", Checks.told("table 3;knight 1 1;knight 1 1;knight 1 1").seatings(), 0);
        C.due("three, for the last", Checks.told("table 3;knight 1 1;knight 1 1;knight 1 1;meant 2").seatings(), 2);
        C.due("all mourning", Checks.told("table 3;mourning 0;mourning 1;mourning 2;king 1 1").seatings(), 0);
        PerilSeat x = Checks.told("table 3;peril 0 1;gold 1 2;meek 2 1;knight 1 1;squire 1 1");
        C.due("day 0", x.seatings(), 1);
        x.sit(0, 2);
        x.feast();
        C.due("day 1, by another renown", x.seatings(), 1);
        C.due("he sits on 0 now", x.seatOf(0), 0);
    }

    private static void noNeighbours() {
        C.sentence(0, "no two NEIGHBOURS are ENEMIES: how many;");
        C.due("three seats", Checks.told(squires(3, 2) + ";enemies 0 1").seatings(), 0);
        for (int seats = 4; seats <= 8; seats++) {
            C.due(seats + " seats", Checks.told(squires(seats, 2) + ";enemies 0 1").seatings(), seats * (seats - 3));
        }
        C.due("three on six, each two enemies", Checks.told(squires(6, 3) + ";enemies 0 1;enemies 1 2;enemies 0 2").seatings(),
            12);
        C.due("three on five", Checks.told(squires(5, 3) + ";enemies 0 1;enemies 1 2;enemies 0 2").seatings(), 0);
        C.due("four on eight", Checks.told(squires(8, 4) + ";enemies 0 1;enemies 1 2;enemies 0 2;enemies 0 3;enemies 1 3;"
            + "enemies 2 3").seatings(), 48);
        C.due("the last is an enemy of the first", Checks.told(squires(8, 6) + ";enemies 0 5").seatings(), 20160 / 7 * 5);
    }

    private static void first() {
        C.sentence(0, "the SEAT of each in the first (by KNIGHTS, lesser SEATS first).");
        PerilSeat x = Checks.told(squires(8, 6));
        for (int knight = 0; knight < 6; knight++) {
            C.due("of " + knight, x.seatOf(knight), knight);
        }
        PerilSeat full = Checks.told("table 3;kin 0 1;kin 1 1;squire 1 1;squire 1 1;squire 2 2");
        C.due("0 on 0", full.seatOf(0), 0);
        C.due("1 on 1", full.seatOf(1), 1);
        C.due("2 on 2", full.seatOf(2), 2);
        PerilSeat last = Checks.told("table 3;kin 0 1;kin 1 1;squire 2 2;squire 1 1;squire 1 1");
        C.due("0 only on the last", last.seatOf(0), 2);
        C.due("1 on 0", last.seatOf(1), 0);
        C.due("2 on 1", last.seatOf(2), 1);
        PerilSeat way = Checks.told("table 4;kin 3 1;kin 2 2;squire 3 3;squire 3 3;squire 1 1;enemies 0 2");
        C.due("not 0, where his enemy must sit beside him", way.seatOf(0) * 100 + way.seatOf(1) * 10 + way.seatOf(2), 103);
    }

    private static void movedFewest() {
        C.sentence(0, "MOVED: the fewest KNIGHTS who sit elsewhere, or do not sit, by THE ROW than by a SEATING;");
        for (int knights = 0; knights <= 6; knights++) {
            PerilSeat x = Checks.told(squires(8, knights));
            for (int sit = 0; sit < knights; sit++) {
                C.due(sit + " of " + knights + " sit", x.moved(), knights - sit);
                x.sit(sit, 7 - sit);
            }
            C.due("all of " + knights + " sit", x.moved(), 0);
        }
        PerilSeat wrong = Checks.told("table 4;mourning 3;knight 1 1;squire 1 1;squire 1 1;peril 0 0");
        wrong.sit(0, 0);
        wrong.sit(1, 3);
        wrong.sit(2, 1);
        C.due("the peril and a name", wrong.moved(), 2);
        PerilSeat enemies = Checks.told(squires(4, 2) + ";enemies 0 1");
        enemies.sit(0, 0);
        enemies.sit(1, 3);
        C.due("one of two enemies", enemies.moved(), 1);
        PerilSeat others = Checks.told(squires(5, 2) + ";enemies 0 1");
        others.sit(0, 2);
        others.sit(1, 3);
        C.due("one of two enemies in the midst", others.moved(), 1);
        PerilSeat gone = Checks.told("table 3;knight 1 1;squire 1 1");
        gone.sit(0, 0);
        gone.feast();
        gone.sit(1, 0);
        C.due("who is not there is not counted", gone.moved(), 0);
    }

    private static void movedNone() {
        C.sentence(0, "none: there is none.");
        C.due("enemies", Checks.told(NO_SEATING).moved(), NONE);
        C.due("no seats", Checks.told("squire 1 1").moved(), NONE);
        C.due("too few seats", Checks.told(squires(3, 4)).moved(), NONE);
        C.due("nobody, who need not move", new PerilSeat().moved(), 0);
    }

    private static void knowsMost() {
        C.sentence(0, "KNOWS of NEWS: how many at most will know it behind a FEAST of a SEATING;");
        for (int knowing = 0; knowing <= 6; knowing++) {
            PerilSeat x = Checks.told(squires(8, 6));
            for (int knight = 0; knight < knowing; knight++) {
                x.tell(knight, 3);
            }
            C.due(knowing + " of six know", x.knows(3), Math.min(6, 2 * knowing));
        }
        C.due("nobody is there", Checks.told("table 8").knows(0), 0);
        PerilSeat alone = Checks.told("table 3;squire 1 1");
        alone.tell(0, 1);
        C.due("he alone", alone.knows(1), 1);
        PerilSeat apart = Checks.told(squires(5, 2) + ";enemies 0 1");
        apart.tell(0, 0);
        C.due("they cannot be neighbours", apart.knows(0), 1);
        PerilSeat wrap = Checks.told("table 3;kin 0 1;mourning 1;kin 2 2;squire 1 1;squire 2 2");
        wrap.tell(0, 0);
        wrap.tell(1, 1);
        C.due("the last hears of 0", wrap.knows(0), 2);
        C.due("0 does not hear of the last", wrap.knows(1), 1);
        PerilSeat side = Checks.told("table 4;kin 0 1;kin 1 2;mourning 2;mourning 3;squire 1 1;squire 2 2");
        side.tell(0, 0);
        side.tell(1, 1);
        C.due("1 does not hear of 0", side.knows(0), 1);
        C.due("0 hears of 1", side.knows(1), 2);
        PerilSeat two = Checks.told("table 6;kin 0 1;kin 2 2;kin 3 3;kin 5 5;mourning 1;mourning 4;squire 1 1;squire 1 2;"
            + "squire 1 3;squire 1 5");
        two.tell(0, 0);
        two.tell(2, 0);
        C.due("the last hears of 0, and 2 of 3", two.knows(0), 4);
        PerilSeat gone = Checks.told("table 3;knight 1 1;squire 1 1");
        gone.tell(0, 2);
        gone.sit(0, 0);
        gone.feast();
        C.due("who was taken is at no feast", gone.knows(2), 0);
    }

    private static void knowsNone() {
        C.sentence(0, "KNOWS of NEWS: how many at most will know it behind a FEAST of a SEATING; none.");
        for (int news = 0; news <= 3; news++) {
            PerilSeat x = Checks.told(NO_SEATING);
            x.tell(0, news);
            C.due("enemies", x.knows(news), NONE);
            C.due("no seats", Checks.told("squire 1 1").knows(news), NONE);
            C.due("too few seats", Checks.told(squires(3, 4)).knows(news), NONE);
        }
    }

    private static void judged() {
        C.sentence(0, "JUDGED: how many by THE ROW are WRONG, by bits of KNIGHTS;");
        C.due("without a table", new PerilSeat().judge(0), 0);
        PerilSeat x = Checks.told("table 8;mourning 2;mourning 3;mourning 4;mourning 5;mourning 6;mourning 7"
            + ";knight 1 1".repeat(6));
        C.due("nobody sits", x.judge(0), 0);
        for (int knight = 0; knight < 6; knight++) {
            x.sit(knight, 7 - knight);
            C.due("one more", x.judge(0), (1 << knight + 1) - 1);
        }
        x.undo();
        x.sit(5, 1);
        C.due("the last is right", x.judge(0), 31);
    }

    private static void quarrels() {
        C.sentence(0, "QUARRELS: pairs of NEIGHBOURS who are ENEMIES.");
        C.due("without a table", new PerilSeat().judge(1), 0);
        PerilSeat x = Checks.told(squires(3, 3) + ";enemies 0 1;enemies 1 2;enemies 0 2");
        x.sit(0, 0);
        C.due("one sits", x.judge(1), 0);
        x.sit(1, 2);
        C.due("on the last and 0", x.judge(1), 1);
        x.sit(2, 1);
        C.due("all round the ring", x.judge(1), 3);
        PerilSeat six = Checks.told(squires(6, 6) + ";enemies 0 1;enemies 2 1;enemies 2 3;enemies 4 3;enemies 4 5;enemies 0 5");
        for (int knight = 0; knight < 6; knight++) {
            six.sit(knight, knight);
        }
        C.due("six round the ring", six.judge(1), 6);
        PerilSeat wrong = Checks.told("table 3;mourning 0;squire 1 1;squire 1 1;enemies 0 1");
        wrong.sit(0, 0);
        wrong.sit(1, 2);
        C.due("who is wrong quarrels too", wrong.judge(1), 1);
    }

    private static void lentName() {
        C.sentence(0, "LENT: how many SEATINGS there are more, were a SEAT OPEN.");
        PerilSeat x = Checks.told("table 3;mourning 0;mourning 1;mourning 2;squire 1 1");
        for (int seat = 0; seat < 3; seat++) {
            C.due("one more by " + seat, x.lent(seat), 1);
        }
        C.due("as told there is none", x.seatings(), 0);
        C.due("two lack a seat", Checks.told("table 3;mourning 1;mourning 2;squire 1 1;squire 1 1;squire 1 1").lent(1), 0);
        C.due("from none to six", Checks.told("table 3;mourning 1;squire 1 1;squire 1 1;squire 1 1").lent(1), 6);
        C.due("an open one", Checks.told("table 3;squire 1 1").lent(2), 0);
        C.due("gold that fits him already", Checks.told("table 3;gold 2 1;squire 1 1").lent(2), 0);
        C.due("gold that does not", Checks.told("table 3;gold 2 2;squire 1 1").lent(2), 1);
        C.due("the peril stays on it", Checks.told("table 3;mourning 0;knight 1 1").lent(0), 0);
        C.due("a squire", Checks.told("table 3;mourning 0;squire 1 1").lent(0), 1);
        C.due("nobody", Checks.told("table 3;mourning 0").lent(0), 0);
        C.due("eight seats", Checks.told("table 8;mourning 7" + ";squire 1 1".repeat(6)).lent(7), 20160 - 5040);
    }

    private static void seatings() {
        C.sentence(17, "SEATINGS: how many.");
        C.due("none", Checks.told(NO_SEATING).seatings(), 0);
        C.due("the empty one", new PerilSeat().seatings(), 1);
        C.due("the most there can be", Checks.told(squires(8, 6)).seatings(), 20160);
        C.due("the row does not matter", open().seatings(), openWays(0, 1, 2, 3));
    }

    /** The SEATINGS of open(), KNIGHT 1 on one of these SEATS; 4 mourns, THE PERIL on 3 is nothing to a SQUIRE. */
    private static int openWays(int... seatsOfOne) {
        int ways = 0;
        for (int zero : new int[] {0, 1, 2, 5}) {
            for (int one : seatsOfOne) {
                for (int three : new int[] {0, 1, 2, 5}) {
                    int apart = Math.abs(zero - one);
                    boolean unlike = zero != one && one != three && zero != three;
                    ways += unlike && apart != 1 && apart != 5 ? 1 : 0;
                }
            }
        }
        return ways;
    }

    private static void seatOf() {
        C.sentence(18, "SEATINGS: the SEAT of a KNIGHT in the first; NONE: there is none, he is not there.");
        PerilSeat none = Checks.told(NO_SEATING);
        C.due("there is none", none.seatOf(0), NONE);
        C.due("there is none", none.seatOf(1), NONE);
        C.due("no seats", Checks.told("king 1 1").seatOf(0), NONE);
        PerilSeat x = open();
        C.due("he is not there", x.seatOf(2), NONE);
        C.due("the first", x.seatOf(0), 0);
        C.due("the squire in peril", x.seatOf(1), 2);
        C.due("the last", x.seatOf(3), 1);
    }

    private static void seatOfRefused() {
        C.sentence(18, "UNKNOWN.");
        C.refused("knight -1", EdgesOfForetoldTest::open, x -> x.seatOf(-1), U);
        C.refused("knight 4", EdgesOfForetoldTest::open, x -> x.seatOf(4), U);
        for (int far : FAR) {
            C.refused("knight " + far, EdgesOfForetoldTest::open, x -> x.seatOf(far), U);
        }
        C.refused("a new object", x -> { }, x -> x.seatOf(0), U);
        C.refused("no seating, no such knight", x -> Checks.table(x, NO_SEATING), x -> x.seatOf(2), U);
    }

    private static void moved() {
        C.sentence(19, "MOVED; NONE.");
        C.due("there is none", Checks.told(NO_SEATING).moved(), NONE);
        C.due("nobody", Checks.told("table 3").moved(), 0);
        C.due("one of two enemies, and who does not sit", open().moved(), 2);
    }

    private static void knows() {
        C.sentence(20, "KNOWS; NONE.");
        C.due("there is none", Checks.told(NO_SEATING).knows(3), NONE);
        C.due("nobody", new PerilSeat().knows(0), 0);
        PerilSeat x = open();
        C.due("he and one more", x.knows(0), 2);
        C.due("nobody knows", x.knows(3), 0);
    }

    private static void knowsRefused() {
        C.sentence(20, "OUTSIDE.");
        C.refused("news -1", EdgesOfForetoldTest::open, x -> x.knows(-1), O);
        C.refused("news 4", EdgesOfForetoldTest::open, x -> x.knows(4), O);
        C.refused("no seating", x -> Checks.table(x, NO_SEATING), x -> x.knows(4), O);
        for (int far : FAR) {
            C.refused("news " + far, EdgesOfForetoldTest::open, x -> x.knows(far), O);
        }
    }

    private static void judge() {
        C.sentence(21, "JUDGED, by bits (what 0), QUARRELS (1).");
        PerilSeat x = open();
        C.due("nobody is wrong", x.judge(0), 0);
        C.due("a quarrel", x.judge(1), 1);
        x.sit(3, 3);
        C.due("the king is in peril", x.judge(0), 8);
    }

    private static void judgeRefused() {
        C.sentence(21, "OUTSIDE.");
        C.refused("what -1", EdgesOfForetoldTest::open, x -> x.judge(-1), O);
        C.refused("what 2", EdgesOfForetoldTest::open, x -> x.judge(2), O);
        for (int far : FAR) {
            C.refused("what " + far, EdgesOfForetoldTest::open, x -> x.judge(far), O);
        }
    }

    private static void lent() {
        C.sentence(27, "LENT.");
        PerilSeat x = open();
        C.due("the first, open", x.lent(0), 0);
        C.due("in mourning", Checks.told("table 3;mourning 2;squire 1 1").lent(2), 1);
        C.due("the last, gold 3, the squire would sit", x.lent(5),
            openWays(0, 1, 2, 3, 5) - openWays(0, 1, 2, 3));
        C.due("its name stays", x.seat(5, 0) * 10 + x.seat(5, 1), 13);
    }

    private static void lentRefused() {
        C.sentence(27, "UNKNOWN.");
        C.refused("seat -1", EdgesOfForetoldTest::open, x -> x.lent(-1), U);
        C.refused("seat 6", EdgesOfForetoldTest::open, x -> x.lent(6), U);
        for (int far : FAR) {
            C.refused("seat " + far, EdgesOfForetoldTest::open, x -> x.lent(far), U);
        }
        C.refused("a new object", x -> { }, x -> x.lent(0), U);
    }
}

/** What is SEEN, the WORLDS, the SAFEST SEAT, QUESTS, and promises 22 to 26: each bound, each refused call. */
public final class EdgesOfSeenTest {
    private static final Checks C = new Checks();
    private static final int NONE = PerilSeat.NONE, U = PerilSeat.UNKNOWN, O = PerilSeat.OUTSIDE;
    private static final int[] FAR = {Integer.MIN_VALUE, Integer.MAX_VALUE, -2, 32, 64, 1000};
    private static final long[] TENS = {1, 10, 100, 1000, 10000, 100000, 1000000, 10000000, 100000000};

    public static void main(String[] args) {
        eightSeen();
        daysGoneBy();
        worldsThereAre();
        whereItCanBe();
        whereItCanBeLater();
        forWhomItCanBe();
        worldsByAllSeen();
        safestSeat();
        safestOfSeveral();
        questsAndTenths();
        renownAboveNine();
        lowestTerms();
        seen();
        seenRefused();
        seenFull();
        forget();
        worlds();
        worldsRefused();
        safest();
        safestRefused();
        quests();
        questsRefused();
        C.end();
    }

    /** DAY 2 of five SEATS, a KNIGHT, a SQUIRE, a KING; something SEEN, kept, undoable. */
    private static void open(PerilSeat x) {
        Checks.table(x, "table 5;mourning 4;gold 3 5;peril 1 2;knight 4 4;squire 2 2;king 7 7;knight 9 9");
        x.sit(1, 0);
        x.feast();
        x.sit(1, 0);
        x.feast();
        x.keep(0);
        x.tell(2, 2);
        x.seen(0, 1, 0, 1);
        x.write('p');
    }

    private static PerilSeat open() {
        PerilSeat x = new PerilSeat();
        open(x);
        return x;
    }

    private static void openWithEightSeen(PerilSeat x) {
        open(x);
        for (int i = 0; i < 7; i++) {
            x.seen(0, 1, 0, 1);
        }
    }

    private static void eightSeen() {
        C.sentence(0, "SEEN, 8 at most:");
        PerilSeat x = Checks.told("table 8;knight 1 1");
        for (int i = 1; i <= 8; i++) {
            C.due("the " + i + "th", x.seen(0, 8 - i, 0, i == 8 ? 1 : 0), i);
        }
        C.due("a ninth", x.seen(0, 7, 0, 1), PerilSeat.FULL);
        C.due("the eighth counts", x.worlds(1), 1);
        C.due("the ninth does not, and each of the eight does", x.worlds(0), 8);
    }

    private static void daysGoneBy() {
        C.sentence(0, "on a DAY gone by or this one a KNIGHT sat on a SEAT whose NAME fitted him, no SQUIRE, and was TAKEN (1) or "
            + "not (0).");
        PerilSeat x = open();
        C.due("day 0", x.seen(0, 0, 0, 0), 2);
        C.due("this day", x.seen(0, 0, 2, 0), 3);
        C.due("the day to come", x.seen(0, 0, 3, 0), O);
        x.sit(1, 0);
        x.feast();
        C.due("it has come", x.seen(0, 0, 3, 0), 4);
        x.undo();
        C.due("and is to come again", x.seen(0, 0, 3, 0), O);
        C.due("what was seen stays", x.count(6), 4);
        C.due("taken", x.seen(0, 0, 1, 1), 5);
        C.due("a name that does not fit him now", x.seen(0, 3, 1, 1), 6);
        C.due("who is called a squire now", x.seen(1, 2, 1, 1), 7);
    }

    private static void worldsThereAre() {
        C.sentence(0, "WORLDS: where THE PERIL was on DAY 0, its STEP (less than there are SEATS), for whom it is (a KNIGHT or none) "
            + "that fit all that is SEEN: how many;");
        C.due("without a table", new PerilSeat().worlds(0), 0);
        C.due("knights without seats", Checks.told("knight 1 1").worlds(0), 0);
        for (int seats = 3; seats <= 8; seats++) {
            for (int knights = 0; knights <= 6; knights++) {
                PerilSeat x = Checks.told("table " + seats + ";king 1 1".repeat(knights));
                C.due(seats + " seats, " + knights + " knights", x.worlds(0), seats * seats * (knights + 1));
            }
        }
        PerilSeat step = Checks.told("table 3;peril 2 7;squire 1 1;knight 1 1;meant 1");
        step.sit(0, 0);
        step.feast();
        C.due("as it is told does not matter", step.worlds(0), 27);
        step.seen(1, 0, 0, 1);
        step.seen(1, 2, 1, 1);
        C.due("by 2, not by 5: for 0 or none", step.worlds(0), 2);
    }

    private static void whereItCanBe() {
        C.sentence(0, "SEATS on which it can be on this DAY, by bits;");
        C.due("without a table", new PerilSeat().worlds(1), 0);
        for (int seats = 3; seats <= 8; seats++) {
            PerilSeat x = Checks.told("table " + seats + ";knight 1 1");
            C.due("anywhere", x.worlds(1), (1 << seats) - 1);
            x.seen(0, seats - 1, 0, 1);
            C.due("on the last", x.worlds(1), 1 << seats - 1);
            x.forget();
            x.seen(0, 0, 0, 1);
            C.due("on the first", x.worlds(1), 1);
            x.seen(0, 1, 0, 1);
            C.due("nowhere", x.worlds(1), 0);
        }
    }

    private static void whereItCanBeLater() {
        C.sentence(0, "on this DAY, by bits;");
        for (int seats = 3; seats <= 8; seats++) {
            for (int step = 0; step < seats; step++) {
                PerilSeat x = Checks.told("table " + seats + ";squire 1 1;knight 1 1");
                x.sit(0, 0);
                x.feast();
                x.seen(1, seats - 1, 0, 1);
                x.seen(1, (seats - 1 + step) % seats, 1, 1);
                C.due("day 1, by " + step + " of " + seats, x.worlds(1), 1 << (seats - 1 + step) % seats);
                x.sit(0, 0);
                x.feast();
                C.due("day 2, by " + step + " of " + seats, x.worlds(1), 1 << (seats - 1 + 2 * step) % seats);
                x.undo();
                x.undo();
                x.undo();
                C.due("undone to day 0", x.worlds(1), 1 << seats - 1);
            }
        }
    }

    private static void forWhomItCanBe() {
        C.sentence(0, "for whom it can be, by bits (none: bit 6).");
        C.due("without a table", new PerilSeat().worlds(2), 0);
        C.due("without seats", Checks.told("knight 1 1").worlds(2), 0);
        for (int knights = 0; knights <= 6; knights++) {
            PerilSeat x = Checks.told("table 3" + ";knight 1 1".repeat(knights));
            C.due("for " + knights + " or none", x.worlds(2), 64 + (1 << knights) - 1);
            for (int knight = 0; knight < knights; knight++) {
                x.seen(knight, 2, 0, 1);
                C.due("not for " + knight, x.worlds(2), 64 + (1 << knights) - (2 << knight));
            }
        }
        PerilSeat last = Checks.told("table 3" + ";knight 1 1".repeat(6));
        last.seen(0, 1, 0, 1);
        last.seen(5, 1, 0, 0);
        C.due("for the last alone", last.worlds(2), 32);
        last.seen(5, 1, 0, 1);
        C.due("for nobody, not even none", last.worlds(2), 0);
    }

    private static void worldsByAllSeen() {
        C.sentence(0, "that fit all that is SEEN");
        PerilSeat x = Checks.told("table 4;knight 1 1;knight 1 1;squire 1 1");
        x.seen(0, 3, 0, 0);
        // It was on 0, 1, 2 for any of four, or on 3 for KNIGHT 0; by any of four steps.
        C.due("not taken", x.worlds(0), (3 * 4 + 1) * 4);
        x.seen(1, 3, 0, 1);
        C.due("and another taken: it is for 0", x.worlds(0), 4);
        C.due("for 0", x.worlds(2), 1);
        x.seen(0, 3, 0, 1);
        C.due("and he taken: no world", x.worlds(0), 0);
        PerilSeat squire = Checks.told("table 4;squire 1 1");
        squire.seen(0, 2, 0, 1);
        C.due("it is told that he was no squire", squire.worlds(1), 4);
    }

    private static void safestSeat() {
        C.sentence(0, "SAFEST for a KNIGHT: the SEAT whose NAME fits him and on which he would be TAKEN on this DAY in the fewest "
            + "WORLDS;");
        PerilSeat x = Checks.told("table 3;knight 1 1;knight 1 1;squire 1 1");
        C.due("a third of those not for him", x.safest(0, 1), 9);
        x.seen(1, 0, 0, 1);
        C.due("it is on 0", x.safest(0, 0), 1);
        C.due("in none", x.safest(0, 1), 0);
        x.forget();
        x.seen(0, 0, 0, 0);
        x.seen(0, 1, 0, 0);
        // On 0 and on 1 it is for KNIGHT 0 (3 worlds each), on 2 for any of four.
        C.due("of 1, the least of 0 and 1", x.safest(1, 0), 0);
        C.due("of 1, in so many", x.safest(1, 1), 3);
        C.due("of 0, in none", x.safest(0, 1), 0);
        C.due("a squire is taken in none", x.safest(2, 1), 0);
        Checks.table(x, "gold 0 2;gold 1 2");
        x.seen(0, 2, 0, 1);
        C.due("only the worst fits him", x.safest(0, 0), 2);
        C.due("in all that are not for him", x.safest(0, 1), 9);
        C.due("it can be for the other", x.safest(1, 1), 6);
        PerilSeat later = Checks.told("table 3;squire 1 1;knight 1 1");
        later.sit(0, 0);
        later.feast();
        later.seen(1, 2, 0, 1);
        later.seen(1, 0, 1, 1);
        C.due("on day 1 it is on 0", later.safest(1, 0), 1);
        later.sit(0, 0);
        later.feast();
        C.due("on day 2 it is on 1", later.safest(1, 0), 0);
    }

    private static void safestOfSeveral() {
        C.sentence(0, "of several the least; in how many.");
        for (int open = 0; open < 8; open++) {
            StringBuilder text = new StringBuilder("table 8;king 1 1");
            for (int seat = 0; seat < open; seat++) {
                text.append(";mourning ").append(seat);
            }
            PerilSeat x = Checks.told(text.toString());
            C.due("the least that fits", x.safest(0, 0), open);
            C.due("in how many", x.safest(0, 1), 8);
            x.seen(0, open, 0, 1);
            C.due("it is on that one", x.safest(0, 0), open == 7 ? 7 : open + 1);
            C.due("so he is safe but on the last", x.safest(0, 1), open == 7 ? 8 : 0);
            x.seen(0, open, 0, 0);
            C.due("in no world, the least again", x.safest(0, 0), open);
            C.due("no world", x.safest(0, 1), 0);
        }
    }

    private static void odds(String what, PerilSeat x, int[] call, long above, long below) {
        C.due(what + ", above", x.quests(call[0], call[1], call[2], call[3], 0), above);
        C.due(what + ", below", x.quests(call[0], call[1], call[2], call[3], 1), below);
    }

    private static void questsAndTenths() {
        C.sentence(0, "QUESTS: the odds that of n (0 .. 8), each done by p tenths (0 .. 10), by itself, so many are done that a KNIGHT's "
            + "RENOWN, 1 more for each, is such that a SEAT's NAME fits him");
        PerilSeat x = Checks.told("table 5;gold 0 8;meek 1 0;kin 2 1;mourning 3;knight 0 0;king 0 0");
        for (int n = 0; n <= 8; n++) {
            odds("none of " + n + " by 1 tenth", x, new int[] {0, 1, n, 1}, power(9, n), TENS[n]);
            odds("by 0 tenths none", x, new int[] {0, 1, n, 0}, 1, 1);
            odds("by 10 tenths all", x, new int[] {0, 1, n, 10}, n == 0 ? 1 : 0, 1);
            odds("8 of " + n + " by 10 tenths", x, new int[] {0, 0, n, 10}, n == 8 ? 1 : 0, 1);
            odds("8 of " + n + " by 0 tenths", x, new int[] {0, 0, n, 0}, 0, 1);
            odds("8 of " + n + " by 1 tenth", x, new int[] {0, 0, n, 1}, n == 8 ? 1 : 0, n == 8 ? TENS[8] : 1);
            odds("8 of " + n + " by 9 tenths", x, new int[] {0, 0, n, 9}, n == 8 ? power(9, 8) : 0, n == 8 ? TENS[8] : 1);
            odds("another house, " + n, x, new int[] {0, 2, n, 5}, 0, 1);
            odds("mourning, " + n, x, new int[] {1, 3, n, 5}, 0, 1);
            odds("open, " + n, x, new int[] {0, 4, n, 3}, 1, 1);
            odds("a king, " + n, x, new int[] {1, 0, n, 3}, 1, 1);
        }
        PerilSeat y = Checks.told("table 3;gold 0 4;meek 1 3;knight 2 2");
        odds("two or three of three by halves", y, new int[] {0, 0, 3, 5}, 1, 2);
        odds("one or none of three by halves", y, new int[] {0, 1, 3, 5}, 1, 2);
        odds("two of two by 3 tenths", y, new int[] {0, 0, 2, 3}, 9, 100);
        odds("not two of two by 3 tenths", y, new int[] {0, 1, 2, 3}, 91, 100);
    }

    private static long power(long base, int times) {
        long power = 1;
        for (int i = 0; i < times; i++) {
            power *= base;
        }
        return power;
    }

    private static void renownAboveNine() {
        C.sentence(0, "(RENOWN above 9 is 9).");
        PerilSeat x = Checks.told("table 3;gold 0 9;meek 1 9;meek 2 8;knight 9 9;knight 8 8");
        odds("gold 9", x, new int[] {0, 0, 8, 5}, 1, 1);
        odds("meek 9", x, new int[] {0, 1, 8, 10}, 1, 1);
        odds("meek 8", x, new int[] {0, 2, 8, 0}, 0, 1);
        odds("gold 9, one of eight at least", x, new int[] {1, 0, 8, 5}, 255, 256);
        odds("meek 9, whatever is done", x, new int[] {1, 1, 8, 5}, 1, 1);
        odds("meek 8, none of eight", x, new int[] {1, 2, 8, 5}, 1, 256);
    }

    private static void lowestTerms() {
        C.sentence(0, "Parts are told in lowest terms: above (part 0), below (1).");
        PerilSeat x = Checks.told("table 3;gold 0 1;meek 1 0;mourning 2;knight 0 0");
        int[][] due = {{0, 1}, {1, 10}, {1, 5}, {3, 10}, {2, 5}, {1, 2}, {3, 5}, {7, 10}, {4, 5}, {9, 10}, {1, 1}};
        for (int p = 0; p <= 10; p++) {
            odds(p + " tenths", x, new int[] {0, 0, 1, p}, due[p][0], due[p][1]);
            odds("not " + p + " tenths", x, new int[] {0, 1, 1, p}, due[10 - p][0], due[10 - p][1]);
            odds("nothing, of " + p, x, new int[] {0, 2, 8, p}, 0, 1);
        }
        odds("eight by halves", x, new int[] {0, 1, 8, 5}, 1, 256);
        odds("eight by 8 tenths", x, new int[] {0, 1, 8, 8}, 1, 390625);
        odds("eight by 4 tenths", x, new int[] {0, 1, 8, 4}, 6561, 390625);
    }

    private static void seen() {
        C.sentence(22, "SEEN: how many.");
        PerilSeat x = open();
        C.due("the second", x.seen(0, 0, 0, 0), 2);
        C.due("the same once more", x.seen(0, 0, 0, 0), 3);
        C.due("the last knight, the last seat, this day", x.seen(3, 4, 2, 1), 4);
        C.due("it cannot be undone", x.undo(), 4);
        C.due("it stays", x.count(6), 4);
        x.back(0);
        C.due("it stays by back, too", x.count(6), 4);
    }

    private static void seenRefused() {
        C.sentence(22, "UNKNOWN; OUTSIDE: the DAY is to come (or below 0), taken not 0, 1;");
        C.refused("knight -1", EdgesOfSeenTest::open, x -> x.seen(-1, 0, 0, 0), U);
        C.refused("knight 4", EdgesOfSeenTest::open, x -> x.seen(4, 0, 0, 0), U);
        C.refused("seat -1", EdgesOfSeenTest::open, x -> x.seen(0, -1, 0, 0), U);
        C.refused("seat 5", EdgesOfSeenTest::open, x -> x.seen(0, 5, 0, 0), U);
        C.refused("seat 5, day 3, taken 2", EdgesOfSeenTest::open, x -> x.seen(0, 5, 3, 2), U);
        C.refused("day 3", EdgesOfSeenTest::open, x -> x.seen(0, 0, 3, 0), O);
        C.refused("day -1", EdgesOfSeenTest::open, x -> x.seen(0, 0, -1, 0), O);
        C.refused("taken 2", EdgesOfSeenTest::open, x -> x.seen(0, 0, 0, 2), O);
        C.refused("taken -1", EdgesOfSeenTest::open, x -> x.seen(0, 0, 0, -1), O);
        for (int far : FAR) {
            C.refused("knight " + far, EdgesOfSeenTest::open, x -> x.seen(far, 0, 0, 0), U);
            C.refused("seat " + far, EdgesOfSeenTest::open, x -> x.seen(0, far, 0, 0), U);
            C.refused("day " + far, EdgesOfSeenTest::open, x -> x.seen(0, 0, far, 0), O);
            C.refused("taken " + far, EdgesOfSeenTest::open, x -> x.seen(0, 0, 0, far), O);
        }
        C.refused("no knight", x -> Checks.table(x, "table 3"), x -> x.seen(0, 0, 0, 0), U);
        C.refused("no seat", x -> Checks.table(x, "knight 1 1"), x -> x.seen(0, 0, 0, 0), U);
    }

    private static void seenFull() {
        C.sentence(22, "FULL.");
        C.refused("a ninth", EdgesOfSeenTest::openWithEightSeen, x -> x.seen(0, 1, 0, 1), PerilSeat.FULL);
        C.refused("a ninth, another", EdgesOfSeenTest::openWithEightSeen, x -> x.seen(3, 4, 2, 0), PerilSeat.FULL);
        C.refused("a ninth, no knight", EdgesOfSeenTest::openWithEightSeen, x -> x.seen(4, 1, 0, 1), U);
        C.refused("a ninth, no seat", EdgesOfSeenTest::openWithEightSeen, x -> x.seen(0, 5, 0, 1), U);
        C.refused("a ninth, to come", EdgesOfSeenTest::openWithEightSeen, x -> x.seen(0, 1, 3, 1), O);
        C.refused("a ninth, taken 2", EdgesOfSeenTest::openWithEightSeen, x -> x.seen(0, 1, 0, 2), O);
    }

    private static void forget() {
        C.sentence(23, "SEEN is nothing: how many there were.");
        C.due("nothing", new PerilSeat().forget(), 0);
        PerilSeat x = new PerilSeat();
        openWithEightSeen(x);
        C.due("eight", x.forget(), 8);
        C.due("none is left", x.count(6), 0);
        C.due("all worlds", x.worlds(0), 125);
        C.due("once more", x.forget(), 0);
        C.due("one can be seen again", x.seen(0, 0, 0, 0), 1);
        C.due("one", x.forget(), 1);
        C.due("it cannot be undone", x.count(8), 5);
    }

    private static void worlds() {
        C.sentence(24, "WORLDS: how many (what 0), SEATS, by bits (1), for whom, by bits (2).");
        PerilSeat x = open();
        C.due("how many", x.worlds(0), 20);
        C.due("seats", x.worlds(1), 31);
        C.due("for whom", x.worlds(2), 64 + 14);
    }

    private static void worldsRefused() {
        C.sentence(24, "OUTSIDE.");
        C.refused("what -1", EdgesOfSeenTest::open, x -> x.worlds(-1), O);
        C.refused("what 3", EdgesOfSeenTest::open, x -> x.worlds(3), O);
        for (int far : FAR) {
            C.refused("what " + far, EdgesOfSeenTest::open, x -> x.worlds(far), O);
        }
        C.refused("a new object", x -> { }, x -> x.worlds(3), O);
    }

    private static void safest() {
        C.sentence(25, "SAFEST: the SEAT (what 0), in how many WORLDS (1); NONE: no NAME fits him.");
        PerilSeat x = open();
        C.due("of the first", x.safest(0, 0), 0);
        C.due("in so many", x.safest(0, 1), 4);
        C.due("a squire", x.safest(1, 0) * 10 + x.safest(1, 1), 0);
        C.due("the last, not for himself", x.safest(3, 1), 3);
        PerilSeat none = Checks.told("table 3;mourning 0;gold 1 2;meek 2 0;knight 1 1;squire 1 1;king 1 1");
        for (int what = 0; what <= 1; what++) {
            C.due("no name fits a knight, " + what, none.safest(0, what), NONE);
            C.due("no name fits a squire, " + what, none.safest(1, what), NONE);
            C.due("without seats, " + what, Checks.told("king 1 1").safest(0, what), NONE);
        }
        C.due("a king", none.safest(2, 0), 1);
        PerilSeat taken = Checks.told("table 3;knight 1 1");
        taken.sit(0, 0);
        taken.feast();
        C.due("who is not there, if he were", taken.safest(0, 0), 0);
    }

    private static void safestRefused() {
        C.sentence(25, "UNKNOWN; OUTSIDE.");
        C.refused("knight -1", EdgesOfSeenTest::open, x -> x.safest(-1, 0), U);
        C.refused("knight 4", EdgesOfSeenTest::open, x -> x.safest(4, 2), U);
        C.refused("what -1", EdgesOfSeenTest::open, x -> x.safest(0, -1), O);
        C.refused("what 2", EdgesOfSeenTest::open, x -> x.safest(3, 2), O);
        C.refused("no name fits him, what 2", x -> Checks.table(x, "king 1 1"), x -> x.safest(0, 2), O);
        for (int far : FAR) {
            C.refused("knight " + far, EdgesOfSeenTest::open, x -> x.safest(far, 9), U);
            C.refused("what " + far, EdgesOfSeenTest::open, x -> x.safest(0, far), O);
        }
    }

    private static void quests() {
        C.sentence(26, "QUESTS.");
        PerilSeat x = open();
        odds("one of two at least by 2 tenths", x, new int[] {0, 3, 2, 2}, 9, 25);
        odds("by his renown as it is now", x, new int[] {1, 3, 1, 3}, 3, 10);
        odds("the last knight, the last seat", x, new int[] {3, 4, 8, 10}, 0, 1);
        odds("no quests, he fits", x, new int[] {3, 3, 0, 0}, 1, 1);
        odds("no quests, he does not", x, new int[] {0, 3, 0, 10}, 0, 1);
    }

    private static void questsRefused() {
        C.sentence(26, "UNKNOWN; OUTSIDE.");
        C.refused("knight -1", EdgesOfSeenTest::open, x -> x.quests(-1, 0, 0, 0, 0), U);
        C.refused("knight 4", EdgesOfSeenTest::open, x -> x.quests(4, 0, 9, 11, 2), U);
        C.refused("seat -1", EdgesOfSeenTest::open, x -> x.quests(0, -1, 0, 0, 0), U);
        C.refused("seat 5", EdgesOfSeenTest::open, x -> x.quests(0, 5, 9, 11, 2), U);
        C.refused("n -1", EdgesOfSeenTest::open, x -> x.quests(0, 0, -1, 0, 0), O);
        C.refused("n 9", EdgesOfSeenTest::open, x -> x.quests(0, 0, 9, 0, 0), O);
        C.refused("p -1", EdgesOfSeenTest::open, x -> x.quests(0, 0, 8, -1, 0), O);
        C.refused("p 11", EdgesOfSeenTest::open, x -> x.quests(0, 0, 8, 11, 0), O);
        C.refused("part -1", EdgesOfSeenTest::open, x -> x.quests(0, 0, 8, 10, -1), O);
        C.refused("part 2", EdgesOfSeenTest::open, x -> x.quests(0, 0, 8, 10, 2), O);
        for (int far : FAR) {
            C.refused("knight " + far, EdgesOfSeenTest::open, x -> x.quests(far, 0, 0, 0, 0), U);
            C.refused("seat " + far, EdgesOfSeenTest::open, x -> x.quests(0, far, 0, 0, 0), U);
            C.refused("n " + far, EdgesOfSeenTest::open, x -> x.quests(0, 0, far, 0, 0), O);
            C.refused("p " + far, EdgesOfSeenTest::open, x -> x.quests(0, 0, 0, far, 0), O);
            C.refused("part " + far, EdgesOfSeenTest::open, x -> x.quests(0, 0, 0, 0, far), O);
        }
    }
}

/** Promises 22 to 26: seen, forget, worlds, safest, quests. */
public final class SeenTest {
    private static final Checks C = new Checks();
    private static final int NONE = PerilSeat.NONE, U = PerilSeat.UNKNOWN, O = PerilSeat.OUTSIDE;

    public static void main(String[] args) {
        refused();
        allWorlds();
        byWhoWasTaken();
        byOtherDays();
        safestSeat();
        odds();
        C.end();
    }

    private static void refused() {
        PerilSeat x = Checks.told("table 3;peril 1 1;squire 1 1;knight 2 2;gold 1 9");
        C.due("no knight", x.seen(2, 0, 0, 0), U);
        C.due("no knight", x.seen(-1, 0, 0, 0), U);
        C.due("no seat", x.seen(0, 3, 0, 0), U);
        C.due("no seat", x.seen(0, -1, 9, 9), U);
        C.due("a day to come", x.seen(0, 0, 1, 0), O);
        C.due("a day below 0", x.seen(0, 0, -1, 0), O);
        C.due("taken 2", x.seen(0, 0, 0, 2), O);
        C.due("taken -1", x.seen(0, 0, 0, -1), O);
        C.due("none", x.count(6), 0);
        for (int i = 1; i <= 8; i++) {
            C.due("the " + i + "th", x.seen(1, i % 3, 0, 0), i);
        }
        C.due("the ninth", x.seen(1, 0, 0, 0), PerilSeat.FULL);
        C.due("OUTSIDE ahead of FULL", x.seen(1, 0, 1, 0), O);
        C.due("UNKNOWN ahead of FULL", x.seen(9, 0, 0, 0), U);
        C.due("eight", x.count(6), 8);
        C.due("forget", x.forget(), 8);
        C.due("forget nothing", x.forget(), 0);
        C.due("none", x.count(6), 0);
        C.due("what is wrong now may have been right then", x.seen(1, 1, 0, 1), 1);
    }

    private static void allWorlds() {
        C.due("no seats", new PerilSeat().worlds(0), 0);
        C.due("no seats", Checks.told("knight 1 1").worlds(2), 0);
        PerilSeat x = Checks.told("table 3;peril 1 1");
        C.due("nobody", x.worlds(0), 9);
        C.due("for none", x.worlds(2), 64);
        x = Checks.told("table 4;peril 1 1;knight 1 1;squire 2 2;meant 0");
        C.due("all", x.worlds(0), 48);
        C.due("everywhere", x.worlds(1), 15);
        C.due("for all, none too", x.worlds(2), 67);
        C.due("no such", x.worlds(3), O);
        C.due("no such", x.worlds(-1), O);
    }

    private static void byWhoWasTaken() {
        PerilSeat x = Checks.told("table 4;peril 1 1;knight 1 1;knight 2 2");
        x.seen(0, 2, 0, 1);
        C.due("it was on 2, not for 0", x.worlds(0), 8);
        C.due("on this day", x.worlds(1), 4);
        C.due("for whom", x.worlds(2), 66);
        x.seen(1, 2, 0, 0);
        C.due("it is for 1", x.worlds(0), 4);
        C.due("for whom", x.worlds(2), 2);
        x.seen(1, 2, 0, 1);
        C.due("no world", x.worlds(0), 0);
        C.due("nowhere", x.worlds(1), 0);
        C.due("for nobody, not even none", x.worlds(2), 0);
        x.forget();
        x.seen(0, 0, 0, 0);
        // On 0 for knight 0 (4 steps), elsewhere (3 seats, 4 steps) for any of three.
        C.due("not taken", x.worlds(0), 40);
        C.due("not taken", x.worlds(1), 15);
        C.due("not taken", x.worlds(2), 67);
    }

    private static void byOtherDays() {
        PerilSeat x = Checks.told("table 5;peril 3 4;squire 1 1;knight 2 2");
        x.sit(0, 0);
        x.feast();
        x.sit(0, 0);
        x.feast();
        C.due("day 2", x.count(2), 2);
        x.seen(1, 3, 0, 1);
        C.due("by any step", x.worlds(1), 31);
        x.seen(1, 2, 1, 1);
        C.due("by 4", x.worlds(0), 2);
        C.due("so it is on 1", x.worlds(1), 2);
        C.due("for 0 or none", x.worlds(2), 65);
        C.due("where it is", x.count(3), 1);
        x.undo();
        C.due("a day earlier it is on 2", x.worlds(1), 4);
        C.due("what is seen stays", x.count(6), 2);
        x.seen(0, 2, 1, 1);
        C.due("a squire is believed to be no squire", x.worlds(2), 64);
        x.sit(0, 1);
        x.feast();
        x.undo();
        C.due("undo leaves what is seen", x.count(6), 3);
    }

    private static void safestSeat() {
        PerilSeat x = Checks.told("table 4;peril 1 1;knight 3 3;squire 2 2;king 1 1;gold 0 4;kin 2 9");
        C.due("of equal ones the least that fits", x.safest(0, 0), 1);
        C.due("all worlds on 1 but those for 0", x.safest(0, 1), 12);
        C.due("a squire", x.safest(1, 0), 1);
        C.due("a squire in none", x.safest(1, 1), 0);
        C.due("a king", x.safest(2, 0), 0);
        x.seen(2, 3, 0, 1);
        C.due("it is on 3", x.safest(0, 0), 1);
        C.due("no danger", x.safest(0, 1), 0);
        x.forget();
        x.seen(2, 1, 0, 1);
        C.due("it is on 1", x.safest(0, 0), 3);
        C.due("no danger", x.safest(0, 1), 0);
        C.due("a squire fears nothing", x.safest(1, 0), 1);
        C.due("no knight", x.safest(3, 0), U);
        C.due("no knight", x.safest(-1, 2), U);
        C.due("no such", x.safest(0, 2), O);
        C.due("no such", x.safest(0, -1), O);
        Checks.table(x, "mourning 0;mourning 1;mourning 2;mourning 3");
        C.due("no name fits", x.safest(2, 0), NONE);
        C.due("no name fits", x.safest(2, 1), NONE);
        PerilSeat bare = Checks.told("squire 1 1");
        C.due("no seats", bare.safest(0, 0), NONE);
        C.due("no seats", bare.safest(0, 1), NONE);
        PerilSeat less = Checks.told("table 3;peril 1 0;knight 1 1;knight 2 2;meek 2 0");
        less.seen(0, 0, 0, 0);
        C.due("fewest worlds", less.safest(1, 0), 0);
        C.due("three, for 0", less.safest(1, 1), 3);
        C.due("him it takes on 0 in no world", less.safest(0, 1), 0);
    }

    private static void odds(String what, PerilSeat x, int[] call, long above, long below) {
        C.due(what + ", above", x.quests(call[0], call[1], call[2], call[3], 0), above);
        C.due(what + ", below", x.quests(call[0], call[1], call[2], call[3], 1), below);
    }

    private static void odds() {
        PerilSeat x = Checks.told("table 6;gold 1 5;meek 2 5;kin 3 7;mourning 4;gold 5 9;knight 3 7;knight 9 0;king 0 0;"
            + "knight 5 1;squire 7 7");
        odds("open", x, new int[] {0, 0, 8, 3}, 1, 1);
        odds("two of two by halves", x, new int[] {0, 1, 2, 5}, 1, 4);
        odds("two of three by 3 tenths", x, new int[] {0, 1, 3, 3}, 27, 125);
        odds("eight by 7 tenths", x, new int[] {0, 1, 8, 7}, 99870967, 100000000);
        odds("six of eight by 1 tenth", x, new int[] {0, 5, 8, 1}, 2341, 100000000);
        odds("all by ten tenths", x, new int[] {0, 5, 6, 10}, 1, 1);
        odds("too few", x, new int[] {0, 5, 5, 10}, 0, 1);
        odds("none by none", x, new int[] {0, 1, 8, 0}, 0, 1);
        odds("no quests", x, new int[] {0, 1, 0, 5}, 0, 1);
        odds("no quests, fits", x, new int[] {3, 1, 0, 10}, 1, 1);
        odds("meek is no more", x, new int[] {3, 2, 2, 2}, 16, 25);
        odds("kin", x, new int[] {0, 3, 4, 4}, 1, 1);
        odds("no kin", x, new int[] {1, 3, 4, 4}, 0, 1);
        odds("above 9 is 9", x, new int[] {1, 5, 8, 10}, 1, 1);
        odds("a king", x, new int[] {2, 5, 3, 3}, 1, 1);
        odds("a king in mourning", x, new int[] {2, 4, 3, 3}, 0, 1);
        odds("a squire", x, new int[] {4, 5, 2, 9}, 81, 100);
        C.due("no knight", x.quests(5, 0, 9, 9, 9), U);
        C.due("no seat", x.quests(0, 6, 0, 0, 0), U);
        C.due("no seat", x.quests(0, -1, 0, 0, 0), U);
        C.due("n 9", x.quests(0, 0, 9, 0, 0), O);
        C.due("n -1", x.quests(0, 0, -1, 0, 0), O);
        C.due("p 11", x.quests(0, 0, 0, 11, 0), O);
        C.due("p -1", x.quests(0, 0, 0, -1, 0), O);
        C.due("part 2", x.quests(0, 0, 0, 0, 2), O);
        C.due("part -1", x.quests(0, 0, 0, 0, -1), O);
        x.sit(0, 1);
        C.due("taken", x.feast(), 1);
        odds("who is not there", x, new int[] {0, 1, 2, 5}, 1, 4);
        x.sit(3, 3);
        x.sit(4, 2);
        C.due("taken", x.feast(), 24);
        x.undo();
        x.rise();
        x.sit(3, 1);
        x.feast();
        odds("renown as it is now", x, new int[] {3, 2, 2, 2}, 0, 1);
    }
}

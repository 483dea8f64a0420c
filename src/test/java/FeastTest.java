/** Promises 10 to 16: sit, rise, tell, feast, undo, keep, back. */
public final class FeastTest {
    private static final Checks C = new Checks();
    private static final int U = PerilSeat.UNKNOWN, O = PerilSeat.OUTSIDE, N = PerilSeat.NOT;

    public static void main(String[] args) {
        sitting();
        rising();
        telling();
        whoIsTaken();
        renown();
        news();
        undoing();
        undoEachCall();
        keeping();
        C.end();
    }

    private static void sitting() {
        PerilSeat x = Checks.told("table 3;knight 1 1;knight 2 2;mourning 2");
        C.due("no knight", x.sit(2, 0), U);
        C.due("no knight", x.sit(-1, 0), U);
        C.due("no seat", x.sit(0, 3), U);
        C.due("no seat", x.sit(0, -1), U);
        C.due("sits where he is wrong", x.sit(0, 2), 1);
        C.due("one sits on it", x.sit(1, 2), N);
        C.due("he sits", x.sit(0, 1), N);
        C.due("he sits there", x.sit(0, 2), N);
        C.due("UNKNOWN ahead of NOT", x.sit(0, 3), U);
        C.due("refused calls are none to undo", x.count(8), 1);
        C.due("the second", x.sit(1, 1), 2);
        C.due("feast", x.feast(), 1);
        C.due("he is not there", x.sit(0, 1), N);
        C.due("nobody sits", x.count(5), 0);
    }

    private static void rising() {
        PerilSeat x = Checks.told("table 3;knight 1 1;knight 2 2");
        C.due("nobody", x.rise(), 0);
        x.sit(0, 2);
        x.sit(1, 0);
        C.due("both", x.rise(), 2);
        C.due("nobody sits", x.count(5), 0);
        C.due("the day stays", x.count(2), 0);
        C.due("sits again", x.sit(1, 2), 1);
    }

    private static void telling() {
        PerilSeat x = Checks.told("table 3;knight 1 1;knight 2 2;mourning 1");
        C.due("news 0", x.tell(1, 0), 1);
        C.due("news 3", x.tell(1, 3), 9);
        C.due("again", x.tell(1, 3), 9);
        C.due("another", x.tell(0, 2), 4);
        C.due("no knight", x.tell(2, 4), U);
        C.due("no news", x.tell(1, 4), O);
        C.due("no news", x.tell(1, -1), O);
        x.sit(1, 1);
        C.due("taken", x.feast(), 2);
        C.due("not there", x.tell(1, 1), N);
        C.due("OUTSIDE ahead of NOT", x.tell(1, 4), O);
        C.due("what he knew", x.knight(1, 5), 9);
    }

    private static void whoIsTaken() {
        PerilSeat empty = new PerilSeat();
        C.due("no table", empty.feast(), N);
        PerilSeat x = Checks.told("table 6;gold 0 5;meek 1 5;kin 2 7;mourning 3;peril 4 5;knight 1 1");
        C.due("nobody sits", x.feast(), N);
        String knights = "knight 4 0;knight 6 0;knight 0 8;king 0 0;squire 5 5;knight 5 5";
        x = Checks.told("table 6;gold 0 5;meek 1 5;kin 2 7;mourning 3;peril 4 5;" + knights);
        for (int k = 0; k < 6; k++) {
            x.sit(k, k);
        }
        C.due("judged", x.judge(0), 15);
        C.due("all names, a king in mourning, a squire in peril", x.feast(), 15);
        C.due("there", x.count(4), 48);
        C.due("the day", x.count(2), 1);
        C.due("the peril goes on", x.count(3), 3);

        PerilSeat y = Checks.told("table 4;peril 1 3;king 0 0;knight 1 1;squire 2 2;meant 1");
        y.sit(0, 1);
        C.due("a king in peril", y.judge(0), 1);
        y.rise();
        y.sit(1, 1);
        C.due("for whom it is meant", y.feast(), 0);
        C.due("it is on 0", y.count(3), 0);
        y.sit(2, 0);
        C.due("a squire", y.feast(), 0);
        C.due("behind the last is 0", y.count(3), 3);
        y.sit(0, 3);
        C.due("the king", y.feast(), 1);
    }

    private static void renown() {
        PerilSeat x = Checks.told("table 6;knight 9 0;knight 0 0;knight 5 0;knight 5 0;knight 3 0;peril 5 1;enemies 1 2;"
            + "enemies 3 4;mourning 4");
        x.sit(0, 0);
        x.sit(1, 1);
        x.sit(2, 2);
        x.sit(3, 3);
        x.sit(4, 4);
        C.due("quarrels", x.judge(1), 2);
        C.due("one is taken", x.feast(), 16);
        int[] due = {9, 0, 4, 4, 3};
        for (int k = 0; k < 5; k++) {
            C.due("renown of " + k, x.knight(k, 1), due[k]);
        }
        x.sit(1, 0);
        x.sit(2, 2);
        x.sit(3, 5);
        x.sit(0, 1);
        C.due("the peril is on 0", x.feast(), 2);
        int[] later = {9, 0, 5, 5, 3};
        for (int k = 0; k < 5; k++) {
            C.due("later renown of " + k, x.knight(k, 1), later[k]);
        }
        for (int seat = 0; seat < 5; seat++) {
            PerilSeat pair = Checks.told("table 5;squire 4 4;squire 4 4;squire 4 4;enemies 0 1;peril 0 0");
            pair.sit(0, seat);
            pair.sit(1, (seat + 1) % 5);
            pair.sit(2, (seat + 3) % 5);
            pair.feast();
            C.due("his enemy is behind " + seat, pair.knight(0, 1), 3);
            C.due("his enemy is ahead of him", pair.knight(1, 1), 3);
            C.due("no enemy beside him", pair.knight(2, 1), 5);
        }
        PerilSeat ring = Checks.told("table 3;peril 1 0;knight 4 4;knight 4 4;enemies 0 1");
        ring.sit(0, 0);
        ring.sit(1, 2);
        C.due("behind the last comes 0", ring.judge(1), 1);
        ring.feast();
        C.due("renown less", ring.knight(0, 1), 3);
        C.due("renown less", ring.knight(1, 1), 3);
    }

    private static void news() {
        PerilSeat x = Checks.told("table 4;mourning 0;peril 0 0;knight 1 1;knight 1 1;knight 1 1;knight 1 1");
        x.tell(0, 0);
        x.tell(1, 1);
        x.tell(2, 2);
        x.tell(3, 3);
        x.sit(0, 0);
        x.sit(1, 1);
        x.sit(3, 3);
        C.due("he of seat 0", x.feast(), 1);
        C.due("the taken one hears of 1", x.knight(0, 5), 3);
        C.due("nobody is behind him", x.knight(1, 5), 2);
        C.due("who does not sit", x.knight(2, 5), 4);
        C.due("behind the last is 0, who is taken", x.knight(3, 5), 9);
        x.sit(1, 1);
        x.sit(2, 2);
        x.sit(3, 3);
        x.feast();
        C.due("only what he knew ahead", x.knight(1, 5), 6);
        C.due("of his left hand", x.knight(2, 5), 13);
        C.due("nobody", x.knight(3, 5), 9);
    }

    /** Each of the last eight of twelve calls, undone, leaves all as an object has it that was never asked so much. */
    private static void undoing() {
        for (int left = 8; left >= 0; left--) {
            PerilSeat x = withCalls(12);
            for (int can = 7; can >= left; can--) {
                C.due("undo", x.undo(), can);
            }
            C.due("as it was", withoutUndo(Checks.state(x)), withoutUndo(Checks.state(withCalls(4 + left))));
            C.due("can be undone yet", x.count(8), left);
        }
    }

    private static PerilSeat withCalls(int calls) {
        PerilSeat x = Checks.told("table 4;peril 1 1;squire 1 1;knight 9 9");
        for (int i = 0; i < calls; i++) {
            if (i % 4 == 0) {
                x.sit(0, 2);
            } else if (i % 4 == 1) {
                x.tell(0, i % 3);
            } else if (i % 4 == 2) {
                x.feast();
            } else {
                x.rise();
            }
        }
        return x;
    }

    /** What can be undone differs, as it must, so it is left out. */
    private static String withoutUndo(String state) {
        String[] parts = state.split(" ");
        parts[8] = "";
        return String.join(" ", parts);
    }

    private static void undoEachCall() {
        PerilSeat x = Checks.told("table 4;peril 1 1;knight 1 1;knight 9 9;knight 5 5;enemies 1 2");
        x.tell(2, 2);
        x.sit(0, 1);
        x.sit(1, 2);
        x.sit(2, 3);
        x.seen(0, 0, 0, 0);
        String was = Checks.state(x);
        C.due("feast", x.feast(), 1);
        C.due("undo it", x.undo(), 4);
        C.due("as ahead of it", Checks.state(x), was);
        C.due("refused", x.sit(0, 0), N);
        C.due("refused", x.tell(0, 4), O);
        C.due("nothing that was refused", x.count(8), 4);
        C.due("undo a sit", x.undo(), 3);
        C.due("he rose", x.knight(2, 6), PerilSeat.NONE);
        x.keep(0);
        C.due("undo another", x.undo(), 2);
        C.due("undo is not undone", x.undo(), 1);
        C.due("undo a tell", x.undo(), 0);
        C.due("no news", x.knight(2, 5), 0);
        C.due("what is seen stays", x.count(6), 1);
        C.due("what is kept stays", x.back(0), 0);
        C.due("as kept", x.count(5), 3);
    }

    private static void keeping() {
        PerilSeat x = Checks.told("table 4;peril 1 1;knight 1 1;knight 9 9;mourning 3");
        C.due("no such", x.keep(2), U);
        C.due("no such", x.keep(-1), U);
        C.due("no such", x.back(2), U);
        C.due("no such", x.back(-1), U);
        C.due("nothing kept", x.back(0), N);
        x.tell(0, 1);
        x.sit(0, 0);
        C.due("keep", x.keep(1), 0);
        C.due("only that one", x.back(0), N);
        x.sit(1, 3);
        C.due("feast", x.feast(), 2);
        C.due("keep the next day", x.keep(0), 1);
        x.seen(0, 0, 1, 0);
        x.write('p');
        C.due("back", x.back(1), 0);
        C.due("nothing can be undone", x.undo(), N);
        C.due("the row", x.count(5), 1);
        C.due("there", x.count(4), 3);
        C.due("renown", x.knight(0, 1), 1);
        C.due("news", x.knight(0, 5), 2);
        C.due("what is seen is not kept", x.count(6), 1);
        C.due("the text is not kept", x.count(9), 1);
        C.due("the peril", x.count(3), 1);
        x.rise();
        C.due("forth", x.back(0), 1);
        C.due("taken", x.count(4), 1);
        C.due("renown", x.knight(0, 1), 2);
        C.due("and back once more", x.back(1), 0);
        C.due("kept as it was", x.count(5), 1);
        x.rise();
        x.keep(1);
        x.sit(1, 1);
        C.due("kept anew", x.back(1), 0);
        C.due("kept anew", x.count(5), 0);
    }
}

/** THE ROW, who is WRONG, a FEAST, and promises 10 to 16: each bound, each refused call. */
public final class EdgesOfFeastsTest {
    private static final Checks C = new Checks();
    private static final int NONE = PerilSeat.NONE, U = PerilSeat.UNKNOWN, O = PerilSeat.OUTSIDE, N = PerilSeat.NOT;
    private static final int[] FAR = {Integer.MIN_VALUE, Integer.MAX_VALUE, -2, 32, 64, 256};

    public static void main(String[] args) {
        neighbours();
        row();
        wrongByName();
        wrongByPeril();
        taken();
        renown();
        enemyWhoIsTaken();
        news();
        newsAhead();
        newsOfTheTaken();
        nextDay();
        sit();
        sitRefused();
        rise();
        tell();
        tellRefused();
        feast();
        feastRefused();
        lastDay();
        undo();
        undoRefused();
        keep();
        keepRefused();
        back();
        backRefused();
        C.end();
    }

    /** Two who sit, one who was TAKEN, one who is elsewhere; something SEEN, kept, told. */
    private static void open(PerilSeat x) {
        Checks.table(x, "table 5;mourning 4;peril 1 2;knight 5 5;squire 2 2;knight 1 1;king 7 7;enemies 0 1");
        x.keep(0);
        x.tell(0, 0);
        x.sit(2, 4);
        x.feast();
        x.sit(0, 0);
        x.sit(1, 1);
        x.seen(0, 0, 1, 0);
        x.write('p');
    }

    private static PerilSeat open() {
        PerilSeat x = new PerilSeat();
        open(x);
        return x;
    }

    private static void neighbours() {
        C.sentence(0, "NEIGHBOURS sit on SEATS next to one another.");
        for (int n = 3; n <= 8; n++) {
            for (int one = 0; one < n; one++) {
                for (int other = 0; other < n; other++) {
                    if (one != other) {
                        PerilSeat x = Checks.told("table " + n + ";squire 5 5;squire 5 5;enemies 0 1");
                        x.sit(0, one);
                        x.sit(1, other);
                        boolean next = (one + 1) % n == other || (other + 1) % n == one;
                        C.due(one + ", " + other + " of " + n, x.judge(1), next ? 1 : 0);
                        x.feast();
                        C.due("renown", x.knight(0, 1) * 10 + x.knight(1, 1), next ? 44 : 66);
                    }
                }
            }
        }
    }

    private static void row() {
        C.sentence(0, "THE ROW tells which KNIGHT sits on a SEAT, if any (each on one at most).");
        PerilSeat x = Checks.told("table 8" + ";squire 1 1".repeat(6));
        for (int knight = 0; knight < 6; knight++) {
            C.due("nobody yet", x.seat(7 - knight, 2), NONE);
            x.sit(knight, 7 - knight);
            C.due("he sits", x.seat(7 - knight, 2), knight);
            C.due("on no other seat", x.sit(knight, 0), N);
        }
        C.due("nobody on 0", x.seat(0, 2), NONE);
        C.due("all six sit", x.count(5), 63);
    }

    private static void wrongByName() {
        C.sentence(0, "He is WRONG there, if the NAME does not fit him,");
        PerilSeat x = Checks.told("table 5;gold 1 5;meek 2 4;kin 3 5;mourning 4;peril 0 0;knight 4 4;knight 5 5;meant 0");
        int[][] due = {{0, 1, 0, 1, 1}, {2, 0, 2, 0, 2}};
        for (int knight = 0; knight < 2; knight++) {
            for (int seat = 0; seat < 5; seat++) {
                x.sit(knight, seat);
                C.due(knight + " on " + seat, x.judge(0), due[knight][seat]);
                x.rise();
            }
        }
    }

    private static void wrongByPeril() {
        C.sentence(0, "or if THE PERIL is on it, he is not the one it is meant for, and no SQUIRE.");
        String[] kinds = {"knight", "squire", "king"};
        for (int kind = 0; kind < 3; kind++) {
            for (int meant = 0; meant < 2; meant++) {
                PerilSeat x = Checks.told("table 3;peril 2 0;" + kinds[kind] + " 1 1;knight 1 1;meant " + meant);
                x.sit(0, 2);
                C.due(kinds[kind] + " in peril for " + meant, x.judge(0), meant == 0 || kind == 1 ? 0 : 1);
                x.rise();
                x.sit(0, 0);
                C.due(kinds[kind] + " beside it", x.judge(0), 0);
            }
        }
        PerilSeat both = Checks.told("table 3;mourning 0;squire 1 1;knight 1 1;meant 1");
        both.sit(0, 0);
        C.due("a squire whom the name does not fit", both.judge(0), 1);
        both.rise();
        both.sit(1, 0);
        C.due("for whom it is, whom the name does not fit", both.feast(), 2);
    }

    private static void taken() {
        C.sentence(0, "A FEAST: who sits and is WRONG is TAKEN (he is there no more).");
        PerilSeat x = Checks.told("table 8;mourning 1;mourning 7" + ";knight 1 1".repeat(6));
        x.sit(0, 0);
        x.sit(1, 1);
        x.sit(2, 2);
        x.sit(5, 7);
        C.due("three of four", x.feast(), 35);
        C.due("the others are there", x.count(4), 28);
        C.due("who sat and was not wrong", x.knight(2, 4), 1);
        C.due("who did not sit", x.knight(3, 4), 1);
        C.due("who is taken", x.knight(5, 4), 0);
        C.due("he cannot sit", x.sit(5, 5), N);
        x.sit(3, 0);
        C.due("another", x.feast(), 8);
        C.due("two are there", x.count(4), 20);
    }

    private static void renown() {
        C.sentence(0, "Of others who sit, who has an ENEMY for a NEIGHBOUR (one who sits, TAKEN or not) has 1 RENOWN less "
            + "(0 at least), else 1 more (9 at most).");
        for (int renown = 0; renown <= 9; renown++) {
            PerilSeat x = Checks.told("table 6;peril 5 0;knight " + renown + " 0;knight 5 0;knight " + renown
                + " 0;knight " + renown + " 0;enemies 0 1");
            x.sit(0, 0);
            x.sit(1, 1);
            x.sit(2, 3);
            x.feast();
            C.due("less than " + renown, x.knight(0, 1), renown == 0 ? 0 : renown - 1);
            C.due("more than " + renown, x.knight(2, 1), renown == 9 ? 9 : renown + 1);
            C.due("who does not sit", x.knight(3, 1), renown);
        }
        PerilSeat both = Checks.told("table 3;squire 5 0;squire 5 0;squire 5 0;enemies 0 1;enemies 0 2");
        both.sit(0, 0);
        both.sit(1, 1);
        both.sit(2, 2);
        both.feast();
        C.due("1 less by two enemies", both.knight(0, 1), 4);
    }

    private static void enemyWhoIsTaken() {
        C.sentence(0, "(one who sits, TAKEN or not)");
        PerilSeat x = Checks.told("table 4;mourning 1;peril 3 0;knight 5 0;knight 5 0;knight 5 0;enemies 0 1;enemies 1 2");
        x.sit(0, 0);
        x.sit(1, 1);
        x.sit(2, 2);
        C.due("he is taken", x.feast(), 2);
        C.due("his enemy ahead of him has less", x.knight(0, 1), 4);
        C.due("his enemy behind him too", x.knight(2, 1), 4);
        C.due("his own stays", x.knight(1, 1), 5);
        x.sit(0, 0);
        x.sit(2, 2);
        x.feast();
        C.due("an enemy who is gone", x.knight(0, 1), 5);
        PerilSeat away = Checks.told("table 4;peril 3 0;knight 5 0;knight 5 0;enemies 0 1");
        away.sit(0, 0);
        away.feast();
        C.due("an enemy who does not sit", away.knight(0, 1), 6);
    }

    private static void news() {
        C.sentence(0, "NEWS 0 .. 3: each one who sits HEARS all that who sits on the SEAT behind his (his left hand) knew ");
        for (int n = 3; n <= 8; n++) {
            for (int seat = 0; seat < n; seat++) {
                PerilSeat x = Checks.told("table " + n + ";squire 5 5;squire 5 5;squire 5 5");
                x.tell(0, 0);
                x.tell(0, 3);
                x.tell(1, 1);
                x.tell(2, 2);
                x.sit(0, (seat + 1) % n);
                x.sit(1, seat);
                x.feast();
                C.due("he hears all of the seat behind " + seat + " of " + n, x.knight(1, 5), 11);
                C.due("he does not hear of the seat ahead of his", x.knight(0, 5), 9);
                C.due("who does not sit hears nothing", x.knight(2, 5), 4);
            }
        }
    }

    private static void newsAhead() {
        C.sentence(0, "knew ahead of the FEAST");
        for (int n = 3; n <= 6; n++) {
            PerilSeat x = Checks.told("table " + n + ";squire 5 5".repeat(n));
            x.tell(0, 3);
            for (int feast = 1; feast <= n; feast++) {
                for (int knight = 0; knight < n; knight++) {
                    x.sit(knight, knight);
                }
                x.feast();
                int know = 0;
                for (int knight = 0; knight < n; knight++) {
                    know += x.knight(knight, 5) == 8 ? 1 : 0;
                }
                C.due("one more by each feast of " + n, know, Math.min(n, feast + 1));
                C.due("he whose left hand knew", x.knight(Math.max(1, n - feast), 5), 8);
            }
        }
    }

    private static void newsOfTheTaken() {
        C.sentence(0, "(whichever of both is TAKEN).");
        for (int wrong = 0; wrong < 4; wrong++) {
            String names = (wrong & 1) != 0 ? ";mourning 0" : "";
            names += (wrong & 2) != 0 ? ";mourning 1" : "";
            PerilSeat x = Checks.told("table 4;peril 3 0;knight 5 5;knight 5 5" + names);
            x.tell(1, 2);
            x.sit(0, 0);
            x.sit(1, 1);
            C.due("taken", x.feast(), wrong);
            C.due("he heard, taken " + wrong, x.knight(0, 5), 4);
            C.due("the other knew, taken " + wrong, x.knight(1, 5), 4);
        }
    }

    private static void nextDay() {
        C.sentence(0, "Then all rise, it is the next DAY, THE PERIL has gone on.");
        PerilSeat x = Checks.told("table 8;peril 7 7" + ";squire 1 1".repeat(6));
        for (int knight = 0; knight < 6; knight++) {
            x.sit(knight, knight + 2);
        }
        x.feast();
        C.due("nobody sits", x.count(5), 0);
        for (int knight = 0; knight < 6; knight++) {
            C.due("he rose", x.knight(knight, 6), NONE);
            C.due("his seat is free", x.seat(knight + 2, 2), NONE);
        }
        C.due("the next day", x.count(2), 1);
        C.due("the peril, by 7 of 8", x.count(3), 6);
        x.sit(0, 6);
        C.due("a seat can be sat on again", x.seat(6, 2), 0);
    }

    private static void sit() {
        C.sentence(10, "A KNIGHT sits on a SEAT: how many sit.");
        PerilSeat x = Checks.told("table 8;mourning 0" + ";knight 1 1".repeat(6));
        int[] seats = {0, 7, 3, 1, 2, 6};
        for (int knight = 0; knight < 6; knight++) {
            C.due("the " + (knight + 1) + "th", x.sit(knight, seats[knight]), knight + 1);
            C.due("his seat", x.knight(knight, 6), seats[knight]);
        }
    }

    private static void sitRefused() {
        C.sentence(10, "UNKNOWN; NOT: he is not there, he sits, one sits on it.");
        C.refused("knight -1", EdgesOfFeastsTest::open, x -> x.sit(-1, 2), U);
        C.refused("knight 4", EdgesOfFeastsTest::open, x -> x.sit(4, 2), U);
        C.refused("seat -1", EdgesOfFeastsTest::open, x -> x.sit(3, -1), U);
        C.refused("seat 5", EdgesOfFeastsTest::open, x -> x.sit(3, 5), U);
        C.refused("he is not there", EdgesOfFeastsTest::open, x -> x.sit(2, 2), N);
        C.refused("he is not there, no such seat", EdgesOfFeastsTest::open, x -> x.sit(2, 5), U);
        C.refused("he sits", EdgesOfFeastsTest::open, x -> x.sit(0, 2), N);
        C.refused("he sits there", EdgesOfFeastsTest::open, x -> x.sit(0, 0), N);
        C.refused("he sits, no such seat", EdgesOfFeastsTest::open, x -> x.sit(0, 5), U);
        C.refused("one sits on it", EdgesOfFeastsTest::open, x -> x.sit(3, 1), N);
        C.refused("one sits on it, no such knight", EdgesOfFeastsTest::open, x -> x.sit(4, 1), U);
        for (int far : FAR) {
            C.refused("knight " + far, EdgesOfFeastsTest::open, x -> x.sit(far, 2), U);
            C.refused("seat " + far, EdgesOfFeastsTest::open, x -> x.sit(3, far), U);
        }
        C.refused("no seats", x -> Checks.table(x, "knight 1 1"), x -> x.sit(0, 0), U);
        C.refused("no knights", x -> Checks.table(x, "table 3"), x -> x.sit(0, 0), U);
    }

    private static void rise() {
        C.sentence(11, "All rise: how many sat.");
        C.due("without a table", new PerilSeat().rise(), 0);
        PerilSeat x = Checks.told("table 8" + ";knight 1 1".repeat(6));
        C.due("nobody", x.rise(), 0);
        for (int many = 1; many <= 6; many++) {
            for (int knight = 0; knight < many; knight++) {
                x.sit(knight, 7 - knight);
            }
            C.due(many + " sat", x.rise(), many);
            C.due("nobody sits", x.count(5), 0);
        }
        C.due("the day stays", x.count(2), 0);
        C.due("all are there", x.count(4), 63);
    }

    private static void tell() {
        C.sentence(12, "A KNIGHT comes to know NEWS (0 .. 3): all that he knows, by bits.");
        PerilSeat x = open();
        C.due("news 3", x.tell(3, 3), 8);
        C.due("news 0", x.tell(3, 0), 9);
        C.due("news 0 again", x.tell(3, 0), 9);
        C.due("news 1", x.tell(3, 1), 11);
        C.due("news 2", x.tell(3, 2), 15);
        C.due("another's", x.knight(0, 5), 1);
        C.due("one who sits", x.tell(1, 2), 4);
    }

    private static void tellRefused() {
        C.sentence(12, "UNKNOWN; OUTSIDE; NOT: he is not there.");
        C.refused("knight -1", EdgesOfFeastsTest::open, x -> x.tell(-1, 0), U);
        C.refused("knight 4", EdgesOfFeastsTest::open, x -> x.tell(4, 4), U);
        C.refused("news -1", EdgesOfFeastsTest::open, x -> x.tell(0, -1), O);
        C.refused("news 4", EdgesOfFeastsTest::open, x -> x.tell(0, 4), O);
        C.refused("news 4, he is not there", EdgesOfFeastsTest::open, x -> x.tell(2, 4), O);
        C.refused("he is not there", EdgesOfFeastsTest::open, x -> x.tell(2, 0), N);
        for (int far : FAR) {
            C.refused("knight " + far, EdgesOfFeastsTest::open, x -> x.tell(far, 9), U);
            C.refused("news " + far, EdgesOfFeastsTest::open, x -> x.tell(0, far), O);
        }
    }

    private static void feast() {
        C.sentence(13, "A FEAST: who is TAKEN, by bits.");
        PerilSeat x = Checks.told("table 8;peril 1 1" + ";knight 1 1".repeat(6) + ";mourning 7");
        x.sit(0, 0);
        C.due("nobody", x.feast(), 0);
        x.sit(0, 2);
        x.sit(5, 7);
        C.due("the first and the last", x.feast(), 33);
        PerilSeat all = Checks.told("table 6;mourning 0;mourning 1;mourning 2;mourning 3;mourning 4;mourning 5"
            + ";king 1 1".repeat(6));
        for (int knight = 0; knight < 6; knight++) {
            all.sit(knight, knight);
        }
        C.due("all", all.feast(), 63);
        C.due("nobody is there", all.count(4), 0);
    }

    private static void feastRefused() {
        C.sentence(13, "NOT: nobody sits;");
        C.refused("without a table", x -> { }, x -> x.feast(), N);
        C.refused("without knights", x -> Checks.table(x, "table 3"), x -> x.feast(), N);
        C.refused("nobody has sat", x -> Checks.table(x, "table 3;knight 1 1"), x -> x.feast(), N);
        C.refused("all rose", x -> {
            open(x);
            x.rise();
        }, x -> x.feast(), N);
        C.refused("behind a feast", x -> {
            open(x);
            x.feast();
        }, x -> x.feast(), N);
    }

    /** Only further on than an object is used (512 calls) it can be DAY 999. */
    private static void lastDay() {
        C.sentence(13, "FULL: it is DAY 999.");
        C.refused("on day 999", EdgesOfFeastsTest::goToLastDay, x -> x.feast(), PerilSeat.FULL);
        PerilSeat x = new PerilSeat();
        goToLastDay(x);
        C.due("day 999", x.count(2), 999);
        C.due("its peril", x.count(3), (2 + 7 * 999) % 5);
        C.due("seen on it", x.seen(0, 0, 999, 0), 1);
        C.due("seen behind it", x.seen(0, 0, 1000, 0), O);
        x.rise();
        C.due("nobody sits, too", x.feast(), N);
        x.undo();
        x.undo();
        C.due("the last feast is undone", x.undo(), 5);
        C.due("day 998", x.count(2), 998);
        C.due("then a feast can be", x.feast(), 0);
        C.due("day 999 again", x.count(2), 999);
    }

    private static void goToLastDay(PerilSeat x) {
        Checks.table(x, "table 5;peril 2 7;squire 1 1");
        for (int day = 0; day < 999; day++) {
            x.sit(0, 0);
            x.feast();
        }
        x.sit(0, 4);
    }

    private static void undo() {
        C.sentence(14, "The latest sit(), rise(), tell(), feast() is undone (also one by which nothing became other; the last 8 "
            + "can be): how many can be undone yet.");
        PerilSeat x = open();
        C.due("five can be", x.count(8), 5);
        C.due("a sit", x.undo(), 4);
        C.due("he does not sit", x.knight(1, 6), NONE);
        C.due("the other does", x.knight(0, 6), 0);
        C.due("a sit more", x.undo(), 3);
        C.due("the feast", x.undo(), 2);
        C.due("it is day 0", x.count(2), 0);
        C.due("the peril is where it was", x.count(3), 1);
        C.due("all are there", x.count(4), 15);
        C.due("who was taken sits", x.knight(2, 6), 4);
        C.due("his sit", x.undo(), 1);
        C.due("the tell", x.undo(), 0);
        C.due("no news", x.knight(0, 5), 0);
        C.due("no more", x.undo(), N);
        undoWhatChangedNothing();
        undoTheLastEight();
    }

    private static void undoWhatChangedNothing() {
        PerilSeat x = Checks.told("table 3;squire 9 9;peril 0 0");
        x.tell(0, 0);
        x.tell(0, 0);
        x.rise();
        C.due("three", x.count(8), 3);
        C.due("a rise of nobody", x.undo(), 2);
        C.due("a tell of what he knows", x.undo(), 1);
        C.due("he knows it", x.knight(0, 5), 1);
        C.due("the first tell", x.undo(), 0);
        C.due("he does not", x.knight(0, 5), 0);
        PerilSeat bare = new PerilSeat();
        bare.rise();
        C.due("without a table", bare.undo(), 0);
    }

    private static void undoTheLastEight() {
        for (int calls = 0; calls <= 19; calls++) {
            PerilSeat x = Checks.told("table 8;squire 0 9;peril 0 0");
            for (int call = 0; call < calls; call++) {
                if (call % 2 == 0) {
                    x.sit(0, call / 2 % 8);
                } else {
                    x.feast();
                }
            }
            int most = Math.min(8, calls);
            C.due("of " + calls, x.count(8), most);
            for (int left = most - 1; left >= 0; left--) {
                C.due("undo of " + calls, x.undo(), left);
                int done = calls - most + left;
                C.due("the day", x.count(2), done / 2);
                C.due("his seat", x.knight(0, 6), done % 2 == 0 ? NONE : done / 2 % 8);
                C.due("his renown", x.knight(0, 1), Math.min(9, done / 2));
            }
            C.due("no more of " + calls, x.undo(), N);
        }
    }

    private static void undoRefused() {
        C.sentence(14, "NOT: none.");
        C.refused("a new object", x -> { }, x -> x.undo(), N);
        C.refused("behind a text", x -> {
            open(x);
            Checks.table(x, "peace");
        }, x -> x.undo(), N);
        C.refused("behind back", x -> {
            open(x);
            x.back(0);
        }, x -> x.undo(), N);
        C.refused("refused calls, and others", x -> {
            Checks.table(x, "table 3;knight 1 1");
            x.sit(0, 3);
            x.tell(0, 4);
            x.feast();
            x.keep(1);
            x.seen(0, 0, 0, 0);
            x.forget();
            x.write('p');
            x.erase();
        }, x -> x.undo(), N);
        C.refused("the ninth", x -> {
            open(x);
            for (int i = 0; i < 8; i++) {
                x.rise();
            }
            for (int i = 0; i < 8; i++) {
                x.undo();
            }
        }, x -> x.undo(), N);
    }

    private static void keep() {
        C.sentence(15, "All as it is (but THE TEXT, SEEN, what can be undone) is kept (k 0, 1): the DAY.");
        PerilSeat x = open();
        C.due("day 1", x.keep(1), 1);
        C.due("what can be undone stays", x.count(8), 5);
        x.feast();
        x.tell(3, 3);
        x.seen(0, 0, 2, 0);
        x.write('e');
        C.due("day 2", x.keep(0), 2);
        C.due("back to day 1", x.back(1), 1);
        C.due("who sits", x.count(5), 3);
        C.due("who is there", x.count(4), 11);
        C.due("renown", x.knight(0, 1), 5);
        C.due("news", x.knight(0, 5) * 10 + x.knight(3, 5), 10);
        C.due("the peril", x.count(3), 3);
        C.due("the text is not kept", x.count(9), 2);
        C.due("seen is not kept", x.count(6), 2);
        C.due("what can be undone is not", x.count(8), 0);
        C.due("on to day 2", x.back(0), 2);
        C.due("news of then", x.knight(3, 5), 8);
        C.due("kept over again", x.keep(1), 2);
        C.due("and the older is gone", x.back(1), 2);
    }

    private static void keepRefused() {
        C.sentence(15, "UNKNOWN: no such k.");
        C.refused("keep -1", EdgesOfFeastsTest::open, x -> x.keep(-1), U);
        C.refused("keep 2", EdgesOfFeastsTest::open, x -> x.keep(2), U);
        for (int far : FAR) {
            C.refused("keep " + far, EdgesOfFeastsTest::open, x -> x.keep(far), U);
        }
    }

    private static void back() {
        C.sentence(16, "It is as it was kept, nothing can be undone: the DAY.");
        PerilSeat x = open();
        C.due("day 0", x.back(0), 0);
        C.due("nothing can be undone", x.count(8), 0);
        C.due("nobody sits", x.count(5), 0);
        C.due("all are there", x.count(4), 15);
        C.due("no news", x.knight(0, 5), 0);
        C.due("he sits", x.sit(0, 3), 1);
        C.due("that can be undone", x.undo(), 0);
        x.sit(0, 2);
        C.due("as often as one likes", x.back(0), 0);
        C.due("and as it was kept", x.count(5), 0);
        PerilSeat bare = new PerilSeat();
        bare.keep(0);
        bare.rise();
        C.due("without a table", bare.back(0), 0);
        C.due("nothing to undo", bare.undo(), N);
    }

    private static void backRefused() {
        C.sentence(16, "UNKNOWN; NOT: nothing was kept since the last text.");
        C.refused("back -1", EdgesOfFeastsTest::open, x -> x.back(-1), U);
        C.refused("back 2", EdgesOfFeastsTest::open, x -> x.back(2), U);
        for (int far : FAR) {
            C.refused("back " + far, EdgesOfFeastsTest::open, x -> x.back(far), U);
        }
        C.refused("the other was kept", EdgesOfFeastsTest::open, x -> x.back(1), N);
        C.refused("a new object", x -> { }, x -> x.back(0), N);
        for (int k = 0; k <= 1; k++) {
            int kept = k;
            C.refused("a text has come, " + k, x -> {
                open(x);
                x.keep(kept);
                x.erase();
                Checks.table(x, "peace");
                x.rise();
            }, x -> x.back(kept), N);
        }
        PerilSeat x = open();
        C.due("a text with a fault is none", x.table(), N);
        C.due("what was kept stays", x.back(0), 0);
    }
}

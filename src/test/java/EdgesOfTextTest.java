/** THE TEXT, read to its first FAULT, and promises 1 to 5: each bound, each refused call. */
public final class EdgesOfTextTest {
    private static final Checks C = new Checks();
    private static final int NONE = PerilSeat.NONE, U = PerilSeat.UNKNOWN, O = PerilSeat.OUTSIDE, N = PerilSeat.NOT;
    private static final int FULL = PerilSeat.FULL;
    private static final String[] CLAUSES = {"table 3", "gold 2 9", "meek 2 9", "kin 2 9", "mourning 2", "knight 9 9",
        "squire 9 9", "king 9 9", "enemies 0 1", "peril 2 7", "meant 1", "peace"};
    /** Ahead of any CLAUSE it makes the SEATS 0 to 2 and the KNIGHTS 0 and 1; 30 letters. */
    private static final String AHEAD = "table 3;knight 1 1;knight 1 1;";
    private static final String SIX = "knight 1 1;knight 1 1;knight 1 1;squire 1 1;squire 1 1;king 1 1";

    public static void main(String[] args) {
        letters();
        clauses();
        forms();
        wordsAsWritten();
        tables();
        names();
        seventhKnight();
        unlikeEnemies();
        perils();
        meant();
        peace();
        clausesAhead();
        lettersAndDigits();
        blanks();
        noBlanks();
        earlierTexts();
        faults();
        faultsAtTheEnd();
        order();
        behindThem();
        newObject();
        write();
        writeRefused();
        erase();
        faultPlaces();
        table();
        tableRefused();
        C.end();
    }

    private static void fault(String text, int want) {
        C.due("fault of \"" + text + "\"", Checks.fault(new PerilSeat(), text), want);
    }

    private static PerilSeat written(String text) {
        PerilSeat x = new PerilSeat();
        Checks.write(x, text);
        return x;
    }

    private static void letters() {
        C.sentence(0, "THE TEXT is a row of letters, 160 at most");
        PerilSeat x = written(" ".repeat(152) + "table 3");
        C.due("159 letters", x.count(9), 159);
        C.due("the 160th", x.write(';'), 160);
        C.due("the 161st", x.write('p'), FULL);
        C.due("it has 160", x.count(9), 160);
        C.due("its end is behind the 160th", x.fault(), 160);
        PerilSeat y = written(" ".repeat(153) + "table 3");
        C.due("the 160th letter is read", y.table(), 1);
        C.due("three seats", y.count(0), 3);
        PerilSeat z = written(" ".repeat(153) + "table 33");
        C.due("the 161st is not", z.table(), 1);
        fault(" ".repeat(156) + "tabl", 156);
        fault(" ".repeat(155) + "table", 160);
        fault(" ".repeat(159) + "k", 159);
        PerilSeat cut = written("table 3");
        cut.erase();
        Checks.write(cut, "tabl");
        C.due("what was erased is not read", cut.fault(), 0);
    }

    private static void clauses() {
        C.sentence(0, "CLAUSES with ; between, 1 to 14 (an empty TEXT ends too soon; behind the 14th no ; can stand)");
        fault("", 0);
        fault(" ", 1);
        fault(";", 0);
        for (int many = 1; many <= 14; many++) {
            String text = ";peace".repeat(many).substring(1);
            fault(text, NONE);
            C.due(many + " clauses", written(text).table(), many);
            fault(text + " peace", text.length() + 1);
            fault(text + ";", many == 14 ? text.length() : text.length() + 1);
            fault(text + ";;", many == 14 ? text.length() : text.length() + 1);
        }
        String most = ";peace".repeat(14).substring(1);
        fault(most + ";peace", 83);
        fault(most + "  ;  peace", 85);
        fault(most + "  ", NONE);
    }

    private static void forms() {
        C.sentence(0, "each is one of: table N. gold S R. meek S R. kin S H. mourning S. knight R H. squire R H. king R H. "
            + "enemies A B. peril S D. meant A. peace.");
        for (String clause : CLAUSES) {
            String text = AHEAD + clause;
            fault(text, NONE);
            fault(text + " 0", text.length() + 1);
            fault(text + " x", text.length() + 1);
            for (int blank = clause.lastIndexOf(' '); blank > 0; blank = clause.lastIndexOf(' ', blank - 1)) {
                String cut = AHEAD + clause.substring(0, blank);
                fault(cut, cut.length());
                fault(cut + " ", cut.length() + 1);
                fault(cut + ";peace", cut.length());
                fault(cut + " peace", cut.length() + 1);
                fault(cut + " -1", cut.length() + 1);
            }
        }
        fault("lance 1 1", 0);
        fault(AHEAD + "open 1", 30);
        fault(AHEAD + "3 table", 30);
    }

    private static void wordsAsWritten() {
        C.sentence(0, "(As written here, without points;");
        for (String clause : CLAUSES) {
            String word = clause.split(" ")[0];
            String rest = clause.substring(word.length());
            fault(AHEAD + clause + ".", AHEAD.length() + clause.length());
            fault(AHEAD + word + "." + rest, AHEAD.length() + word.length());
            fault(AHEAD + word + "x" + rest, 30);
            fault(AHEAD + "x" + clause, 30);
            fault(AHEAD + word.toUpperCase() + rest, 30);
            fault(AHEAD + word.substring(0, 1) + " " + clause.substring(1), 30);
            // king without its last letter is kin: with these numbers SEAT 9, which there is not.
            fault(AHEAD + word.substring(0, word.length() - 1) + rest, word.equals("king") ? 34 : 30);
        }
    }

    private static void tables() {
        C.sentence(0, "table: N SEATS, all OPEN, no KNIGHTS, no ENEMIES, THE PERIL as at first");
        PerilSeat x = Checks.told("table 8;gold 0 9;kin 7 8;knight 1 1;knight 1 1;enemies 0 1;peril 7 7;meant 1");
        C.due("fewer", Checks.table(x, "table 3"), 1);
        C.due("three seats", x.count(0), 3);
        C.due("no fourth", x.seat(3, 0), U);
        C.due("no knights", x.count(1), 0);
        C.due("nobody is there", x.count(4), 0);
        C.due("no enemies", x.count(7), 0);
        C.due("it is on 0", x.count(3), 0);
        C.due("more", Checks.table(x, "table 8;knight 1 1;knight 1 1"), 3);
        for (int seat = 0; seat < 8; seat++) {
            C.due("open, " + seat, x.seat(seat, 0), 0);
            C.due("its number, " + seat, x.seat(seat, 1), 0);
        }
        C.due("no enemy of old", x.knight(0, 3), 0);
        x.sit(1, 0);
        C.due("for none", x.feast(), 2);
        C.due("by 0", x.count(3), 0);
        PerilSeat same = Checks.told("table 4;gold 3 3;knight 1 1;table 4");
        C.due("in one text, the seat", same.seat(3, 0), 0);
        C.due("in one text, the knight", same.count(1), 0);
    }

    private static void names() {
        C.sentence(0, "gold ..: SEAT S has that NAME");
        PerilSeat x = Checks.told("table 8;gold 0 9;gold 7 1");
        C.due("the first", x.seat(0, 1), 9);
        C.due("one between", x.seat(1, 0), 0);
        C.due("the last", x.seat(7, 1), 1);
        Checks.table(x, "mourning 0;meek 7 0");
        C.due("another name, without a number", x.seat(0, 0) * 10 + x.seat(0, 1), 40);
        C.due("another name, with another number", x.seat(7, 0) * 10 + x.seat(7, 1), 20);
        for (String name : new String[] {"gold 8 1", "meek 8 1", "kin 8 1", "mourning 8"}) {
            C.due("no such seat for " + name, Checks.fault(x, name), name.indexOf(' ') + 1);
        }
    }

    private static void seventhKnight() {
        C.sentence(0, "knight ..: a KNIGHT more, a seventh cannot stand there (at its word)");
        for (String word : new String[] {"knight", "squire", "king"}) {
            fault(SIX + ";" + word + " 1 1", SIX.length() + 1);
            fault(SIX + "; " + word + " 10 10", SIX.length() + 2);
            fault(SIX + ";" + word, SIX.length() + 1);
        }
        PerilSeat x = Checks.told("knight 1 1;squire 1 1;king 1 1;king 1 1;squire 1 1");
        C.due("a sixth", Checks.fault(x, "king 1 1"), NONE);
        C.due("a seventh by two texts", Checks.fault(x, "king 1 1;knight 1 1"), 9);
        C.due("he can come behind a table", Checks.fault(x, "king 1 1;table 3;knight 1 1"), NONE);
        Checks.table(x, "king 1 1");
        C.due("a seventh by three texts", Checks.fault(x, " squire"), 1);
        C.due("other clauses can stand", Checks.fault(x, "meant 5;enemies 5 0"), NONE);
    }

    private static void unlikeEnemies() {
        C.sentence(0, "enemies: A, B unlike (else a FAULT at B)");
        fault(AHEAD + "enemies 0 0", 40);
        fault(AHEAD + "enemies 1 1", 40);
        fault(AHEAD + "enemies 1  01", 41);
        fault(AHEAD + "enemies 1 0", NONE);
        fault(AHEAD + "enemies 0 2", 40);
        fault(AHEAD + "enemies 2 0", 38);
        fault(AHEAD + "enemies 2 2", 38);
        fault("knight 1 1;enemies 0 0", 21);
        fault("enemies 0 0", 8);
        C.due("told twice, one pair", Checks.told(AHEAD + "enemies 0 1;enemies 1 0").count(7), 1);
        PerilSeat x = Checks.told(AHEAD + "enemies 1 0");
        C.due("either's enemy, whichever is told first", x.knight(0, 3) * 10 + x.knight(1, 3), 21);
    }

    private static void perils() {
        C.sentence(0, "peril: it is on SEAT S on DAY 0, its STEP is D");
        PerilSeat x = Checks.told(AHEAD + "meant 0;peril 1 2;peril 2 1");
        C.due("the later one stands", x.count(3), 2);
        x.sit(0, 2);
        C.due("for whom it is stays", x.feast(), 0);
        C.due("by 1, round the ring", x.count(3), 0);
        Checks.table(x, "peril 1 0");
        C.due("a text more, day 0", x.count(3), 1);
        fault("peril 0 0", 6);
        fault(AHEAD + "peril 3 0", 36);
        fault(AHEAD + "peril 0 8", 38);
    }

    private static void meant() {
        C.sentence(0, "meant: for A");
        fault("meant 0", 6);
        fault(AHEAD + "meant 1", NONE);
        fault(AHEAD + "meant 2", 36);
        for (int knight = 0; knight < 2; knight++) {
            PerilSeat x = Checks.told(AHEAD + "meant " + knight);
            for (int sitting = 0; sitting < 2; sitting++) {
                x.sit(sitting, 0);
                C.due("for " + knight, x.judge(0), sitting == knight ? 0 : 1 << sitting);
                x.rise();
            }
        }
    }

    private static void peace() {
        C.sentence(0, "peace: no ENEMIES");
        C.due("without any", Checks.told("peace").count(7), 0);
        PerilSeat x = Checks.told(AHEAD + "knight 1 1;enemies 0 1;enemies 1 2;enemies 0 2");
        C.due("three pairs", x.count(7), 3);
        C.due("peace", Checks.table(x, "peace"), 1);
        C.due("no pair", x.count(7), 0);
        C.due("nobody's", x.knight(0, 3) | x.knight(1, 3) | x.knight(2, 3), 0);
        C.due("the knights stay", x.count(1), 3);
    }

    private static void clausesAhead() {
        C.sentence(0, "SEATS, KNIGHTS such as there are behind the CLAUSES ahead");
        fault("gold 0 1;table 3", 5);
        fault("table 3;gold 2 1", NONE);
        fault("table 4;table 3;gold 3 1", 21);
        fault("table 3;table 4;gold 3 1", NONE);
        fault("meant 0;knight 1 1", 6);
        fault("knight 1 1;meant 0", NONE);
        fault("knight 1 1;table 3;meant 0", 25);
        fault("knight 1 1;enemies 0 1;knight 1 1", 21);
        PerilSeat x = Checks.told("table 4;knight 1 1;knight 1 1");
        C.due("of an earlier text", Checks.fault(x, "gold 3 1;meant 1;enemies 0 1"), NONE);
        C.due("one more than of an earlier text", Checks.fault(x, "gold 4 1"), 5);
        C.due("one more knight", Checks.fault(x, "meant 2"), 6);
        C.due("he comes by this text", Checks.fault(x, "knight 1 1;meant 2"), NONE);
        C.due("a text that was only read told nothing", Checks.fault(x, "meant 2"), 6);
        C.due("more seats by this text", Checks.fault(x, "table 8;gold 7 1"), NONE);
        C.due("it was only read, too", Checks.fault(x, "gold 7 1"), 5);
        C.due("fewer seats by this text", Checks.fault(x, "table 3;gold 3 1"), 13);
        C.due("four are there yet", Checks.fault(x, "gold 3 1"), NONE);
    }

    private static void lettersAndDigits() {
        C.sentence(0, "small letters a .. z, numbers of 1 or 2 digits");
        fault("table 3", NONE);
        fault("table 03", NONE);
        fault("table 003", 6);
        fault("table 0000000003", 6);
        fault("table 4294967299", 6);
        fault("table /", 6);
        fault("table :", 6);
        fault("table 3/", 7);
        fault("table 3:", 7);
        fault("table `", 6);
        fault("table {", 6);
        for (char letter = 0; letter < 256; letter++) {
            boolean small = letter >= 'a' && letter <= 'z';
            boolean fine = letter == ' ';
            int behind = letter == ';' ? 6 : 5;
            fault("peace" + letter, fine ? NONE : small ? 0 : behind);
            fault(letter + "peace", fine ? NONE : 0);
        }
    }

    private static void blanks() {
        C.sentence(0, "blanks (32) may stand ahead of, between and behind TOKENS");
        fault("   table   3   ;   knight   1   1   ;   peace   ", NONE);
        for (char letter = 0; letter < 256; letter++) {
            boolean small = letter >= 'a' && letter <= 'z';
            boolean digit = letter >= '0' && letter <= '9';
            boolean fine = letter == ' ' || letter == '0';
            fault("table" + letter + "3", fine ? NONE : small ? 0 : 5);
            fault("knight 1" + letter + "1", letter == ' ' ? NONE : digit ? 7 : 8);
        }
    }

    private static void noBlanks() {
        C.sentence(0, "none is needed but between two words, two numbers;");
        fault("table3;gold2 9;mourning0;knight9 9;knight9 9;enemies0 1;peril2 7;meant1;peace", NONE);
        fault("peacepeace", 0);
        fault("peace peace", 6);
        fault("table 3;gold 0 1", NONE);
        fault("table 3;gold 01", 15);
        fault("table 3;gold 01;peace", 15);
        fault("table 3;gold 001", 13);
        fault("table 3;gold0", 13);
    }

    private static void earlierTexts() {
        C.sentence(0, "what earlier texts told stays.)");
        PerilSeat x = Checks.told("table 8;gold 7 9;knight 8 7;knight 6 5;enemies 0 1;peril 7 7;meant 1");
        C.due("a later text", Checks.table(x, "squire 0 0"), 1);
        C.due("seats", x.count(0), 8);
        C.due("a name", x.seat(7, 0) * 10 + x.seat(7, 1), 19);
        C.due("a knight's renown and house", x.knight(0, 1) * 10 + x.knight(0, 2), 87);
        C.due("enemies", x.knight(1, 3), 1);
        C.due("the peril", x.count(3), 7);
        x.sit(2, 0);
        x.feast();
        C.due("its step", x.count(3), 6);
        x.sit(1, 6);
        C.due("for whom", x.judge(0), 0);
        C.due("a seat of an earlier text gets another name", Checks.table(x, "kin 0 1"), 1);
        C.due("the first name stays", x.seat(7, 0), 1);
    }

    private static void faults() {
        C.sentence(0, "A FAULT is at the first TOKEN (a row of small letters, a row of digits, any other letter) that cannot "
            + "stand there (a number out of its bounds, of more digits, also)");
        fault("table 9;gold 9 9;lance", 6);
        fault("table 3;goldgold 0 0", 8);
        fault("table 3;gold 3 10", 13);
        fault("table 3;gold 2 10", 15);
        fault("table 3;gold 2 100", 15);
        fault("table 3;gold 100 1", 13);
        fault("table 3 ??", 8);
        fault("table ?3", 6);
        fault("?table 3", 0);
        fault("table 3,knight 1 1", 7);
        fault("table 3; ;peace", 9);
        fault("  Table 3", 2);
        fault("tAble 3", 0);
        fault("tablE 3", 0);
        fault("table -3", 6);
        fault("table +3", 6);
        fault("table 3.", 7);
        fault("table x", 6);
        fault("table 3x", 7);
    }

    private static void faultsAtTheEnd() {
        C.sentence(0, "or at the end, if it comes too soon.");
        fault("", 0);
        fault("table", 5);
        fault("table   ", 8);
        fault("table 3;", 8);
        fault("table 3;  ", 10);
        fault("table 3;gold", 12);
        fault("table 3;gold 0", 14);
        fault("table 3;gold 0 ", 15);
        fault("table" + " ".repeat(155), 160);
        fault("peace;" + " ".repeat(154), 160);
    }

    private static void order() {
        C.sentence(0, "CLAUSES are done in their order.");
        C.due("the later table", Checks.told("table 8;table 3").count(0), 3);
        C.due("the later name", Checks.told("table 3;gold 0 1;meek 0 2").seat(0, 0), 2);
        C.due("the later name", Checks.told("table 3;meek 0 2;gold 0 1").seat(0, 0), 1);
        C.due("peace behind", Checks.told(AHEAD + "enemies 0 1;peace").count(7), 0);
        C.due("peace ahead", Checks.told(AHEAD + "peace;enemies 0 1").count(7), 1);
        C.due("a knight ahead of the table", Checks.told("knight 1 1;table 3").count(1), 0);
        C.due("a knight behind it", Checks.told("table 3;knight 1 1").count(1), 1);
        C.due("the first is the first", Checks.told("squire 2 2;king 3 3").knight(0, 0), 1);
    }

    private static void behindThem() {
        C.sentence(0, "Behind them it is DAY 0, all KNIGHTS are there, with RENOWN as told, none knows NEWS, nobody sits, "
            + "nothing is SEEN, nothing is kept or can be undone.");
        PerilSeat x = Checks.told("table 4;knight 9 1;knight 0 1;squire 5 1;enemies 0 2;peril 1 1");
        x.tell(0, 3);
        x.tell(1, 0);
        x.keep(0);
        x.sit(0, 3);
        x.sit(1, 1);
        x.sit(2, 0);
        x.feast();
        x.keep(1);
        x.sit(2, 2);
        x.seen(1, 1, 0, 1);
        C.due("ahead, he is taken", x.count(4), 5);
        C.due("ahead, his renown", x.knight(0, 1), 8);
        C.due("any text", Checks.table(x, "peace"), 1);
        C.due("day 0", x.count(2), 0);
        C.due("the peril as on day 0", x.count(3), 1);
        C.due("all are there", x.count(4), 7);
        int[] renown = {9, 0, 5};
        for (int knight = 0; knight < 3; knight++) {
            C.due("renown of " + knight, x.knight(knight, 1), renown[knight]);
            C.due("news of " + knight, x.knight(knight, 5), 0);
            C.due("seat of " + knight, x.knight(knight, 6), NONE);
        }
        C.due("nobody sits", x.count(5), 0);
        C.due("nothing is seen", x.count(6), 0);
        C.due("all worlds", x.worlds(0), 64);
        C.due("nothing can be undone", x.count(8), 0);
        C.due("undo", x.undo(), N);
        C.due("nothing is kept", x.back(0), N);
        C.due("nor there", x.back(1), N);
    }

    private static void newObject() {
        C.sentence(1, "No table.");
        PerilSeat x = new PerilSeat();
        int[] counts = {0, 0, 0, NONE, 0, 0, 0, 0, 0, 0};
        for (int what = 0; what < counts.length; what++) {
            C.due("count " + what, x.count(what), counts[what]);
        }
        C.due("no seat", x.seat(0, 0), U);
        C.due("no knight", x.knight(0, 0), U);
        C.due("nobody sits", x.feast(), N);
        C.due("nothing to undo", x.undo(), N);
        C.due("nothing kept", x.back(0), N);
        C.due("the empty seating", x.seatings(), 1);
        C.due("nobody moves", x.moved(), 0);
        C.due("nobody knows", x.knows(3), 0);
        C.due("no world", x.worlds(0), 0);
        C.due("an empty text", x.fault(), 0);
        C.due("keep", x.keep(1), 0);
        C.due("back", x.back(1), 0);
    }

    private static void write() {
        C.sentence(2, "A letter (its number, 0 .. 255) more of THE TEXT: how many it has.");
        PerilSeat x = new PerilSeat();
        for (int letter = 0; letter <= 159; letter++) {
            C.due("letter " + letter, x.write(letter), letter + 1);
        }
        x.erase();
        for (int letter = 160; letter <= 255; letter++) {
            C.due("letter " + letter, x.write(letter), letter - 159);
        }
    }

    private static void writeRefused() {
        C.sentence(2, "OUTSIDE; FULL.");
        for (int letter : new int[] {-1, 256, Integer.MIN_VALUE, Integer.MAX_VALUE}) {
            C.refused("write " + letter, x -> Checks.write(x, "peace"), x -> x.write(letter), O);
            C.refused("write " + letter + " to a full one", x -> Checks.write(x, " ".repeat(160)), x -> x.write(letter), O);
        }
        for (int letter : new int[] {0, ' ', 'z', 255}) {
            C.refused("the 161st", x -> Checks.write(x, " ".repeat(155) + "peace"), x -> x.write(letter), FULL);
        }
    }

    private static void erase() {
        C.sentence(3, "THE TEXT is empty: how many letters it had.");
        PerilSeat x = new PerilSeat();
        C.due("none", x.erase(), 0);
        C.due("one", written("x").erase(), 1);
        PerilSeat full = written(" ".repeat(160));
        C.due("160", full.erase(), 160);
        C.due("it has none", full.count(9), 0);
        C.due("it ends too soon", full.fault(), 0);
        C.due("letters can come again", full.write('x'), 1);
        PerilSeat told = Checks.told("table 3;knight 1 1");
        told.sit(0, 1);
        Checks.write(told, "table 8");
        C.due("only the text", told.erase(), 7);
        C.due("the table stays", told.count(0), 3);
        C.due("he sits yet", told.count(5), 1);
        C.due("what can be undone stays", told.count(8), 1);
    }

    private static void faultPlaces() {
        C.sentence(4, "The place of the FAULT (the letter with which the TOKEN begins, or the length); NONE.");
        fault("  lance", 2);
        fault("table  99", 7);
        fault("table 3  ;  ?", 12);
        fault("table ", 6);
        fault("table 3", NONE);
        PerilSeat x = written("table 3; gold");
        C.due("asked once", x.fault(), 13);
        C.due("asked twice", x.fault(), 13);
        C.due("the text stays", x.count(9), 13);
        Checks.write(x, " 2 2");
        C.due("no fault any more", x.fault(), NONE);
        C.due("nothing was done", x.count(0), 0);
        x.write(';');
        C.due("a fault again", x.fault(), 18);
    }

    private static void table() {
        C.sentence(5, "THE TEXT's CLAUSES are done, and it is empty then: how many there were.");
        PerilSeat one = written("table 3");
        C.due("one", one.table(), 1);
        C.due("it is empty", one.count(9), 0);
        C.due("it is done", one.count(0), 3);
        PerilSeat most = written("table 3" + ";gold 2 1;meek 2 2".repeat(6) + ";kin 2 3");
        C.due("14", most.table(), 14);
        C.due("the 14th is done", most.seat(2, 0), 3);
        C.due("it is empty", most.count(9), 0);
    }

    private static void tableRefused() {
        C.sentence(5, "NOT: it has a FAULT.");
        C.due("an empty one", new PerilSeat().table(), N);
        for (String text : new String[] {"", " ", "table 3;table 9", "knight 1 1;peace;", "peril 1 1;meant 3", "mourning 4"}) {
            C.refused("table of \"" + text + "\"", x -> {
                Checks.table(x, "table 4;knight 5 5;squire 1 1;enemies 0 1");
                x.sit(0, 1);
                x.keep(1);
                x.sit(1, 0);
                x.feast();
                x.seen(0, 0, 0, 0);
                x.tell(1, 1);
                Checks.write(x, text);
            }, x -> x.table(), N);
        }
    }
}

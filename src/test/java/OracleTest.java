import java.util.Random;

/** Random runs of calls, each answer compared with the slow oracle's; promises 1 to 28. */
public final class OracleTest {
    private static final Checks CHECKS = new Checks();
    /** An object is used for so many calls. */
    private static final int MOST_CALLS = 512;
    private static final String[] WORDS = {"table", "gold", "meek", "kin", "mourning", "knight", "squire", "king",
        "enemies", "peril", "meant", "peace"};

    private final Random random;
    private final PerilSeat x = new PerilSeat();
    private final Oracle o = new Oracle();
    private int calls;

    private OracleTest(long seed) {
        random = new Random(seed);
    }

    public static void main(String[] args) {
        for (int seed = 0; seed < 1500; seed++) {
            new OracleTest(seed).run(seed);
        }
        CHECKS.end();
    }

    private void run(int seed) {
        if (seed % 3 != 0) {
            told(fineText());
        }
        while (calls < MOST_CALLS) {
            step();
            // What is asked often costs the oracle much; what changes is asked for in full now and then.
            if (random.nextInt(40) == 0 && calls < MOST_CALLS - 84) {
                whole();
            }
        }
    }

    private void due(String call, long got, long want) {
        calls++;
        CHECKS.due(call, got, want);
    }

    private int any(int below) {
        if (random.nextInt(25) == 0) {
            int[] wild = {-1, -2, below, below + 1, Integer.MAX_VALUE, Integer.MIN_VALUE, 31, 32, 33, 256};
            return wild[random.nextInt(wild.length)];
        }
        return random.nextInt(Math.max(1, below));
    }

    private int knight() {
        return any(o.now.knights.size());
    }

    private int seat() {
        return any(o.now.n());
    }

    private void step() {
        int a = knight();
        int b = seat();
        switch (random.nextInt(24)) {
            case 0: case 1: case 2: case 3: case 4: case 5:
                due("sit", x.sit(a, b), o.sit(a, b));
                break;
            case 6:
                due("rise", x.rise(), o.rise());
                break;
            case 7: case 8:
                int news = any(4);
                due("tell", x.tell(a, news), o.tell(a, news));
                break;
            case 9: case 10: case 11:
                due("feast", x.feast(), o.feast());
                break;
            case 12: case 13:
                due("undo", x.undo(), o.undo());
                break;
            case 14:
                int k = any(2);
                due("keep", x.keep(k), o.keep(k));
                break;
            case 15:
                if (random.nextInt(3) == 0) {
                    int j = any(2);
                    due("back", x.back(j), o.back(j));
                }
                break;
            case 16: case 17: case 18:
                int day = any(o.now.day + 1);
                int taken = random.nextInt(4) == 0 ? 1 : any(1);
                due("seen", x.seen(a, b, day, taken), o.seen(a, b, day, taken));
                break;
            case 19:
                if (random.nextInt(4) == 0) {
                    due("forget", x.forget(), o.forget());
                }
                break;
            case 20:
                if (random.nextInt(3) == 0) {
                    told(random.nextBoolean() ? fineText() : anyText());
                }
                break;
            default:
                ask(a, b);
        }
    }

    private void ask(int a, int b) {
        int what = any(10);
        switch (random.nextInt(15)) {
            case 0: due("seat", x.seat(b, what), o.seat(b, what)); break;
            case 1: due("knight", x.knight(a, what), o.knight(a, what)); break;
            case 2: due("as", x.as(a, what), o.as(a, what)); break;
            case 3: due("seatAs", x.seatAs(b, what), o.seatAs(b, what)); break;
            case 4: due("seatings", x.seatings(), o.seatings()); break;
            case 5: due("seatOf", x.seatOf(a), o.seatOf(a)); break;
            case 6: due("moved", x.moved(), o.moved()); break;
            case 7: due("knows", x.knows(what), o.knows(what)); break;
            case 8: due("judge", x.judge(what), o.judge(what)); break;
            case 9: due("worlds", x.worlds(what), o.worlds(what)); break;
            case 10: due("safest", x.safest(a, what % 3), o.safest(a, what % 3)); break;
            case 11: case 12:
                int n = any(9);
                int p = any(11);
                int part = any(2);
                due("quests", x.quests(a, b, n, p, part), o.quests(a, b, n, p, part));
                break;
            case 13: due("lent", x.lent(b), o.lent(b)); break;
            default: due("count", x.count(what), o.count(what));
        }
    }

    private void whole() {
        for (int what = 0; what <= 9; what++) {
            due("count " + what, x.count(what), o.count(what));
        }
        for (int s = 0; s < o.now.n(); s++) {
            for (int what = 0; what <= 3; what++) {
                due("seat " + what, x.seat(s, what), o.seat(s, what));
            }
        }
        for (int k = 0; k < o.now.knights.size(); k++) {
            for (int what = 0; what <= 6; what++) {
                due("knight " + what, x.knight(k, what), o.knight(k, what));
            }
        }
    }

    private void told(String text) {
        if (calls + text.length() + 3 > MOST_CALLS) {
            return;
        }
        due("erase", x.erase(), o.erase());
        for (int i = 0; i < text.length(); i++) {
            due("write", x.write(text.charAt(i)), o.write(text.charAt(i)));
        }
        due("fault of " + text, x.fault(), o.fault());
        due("table of " + text, x.table(), o.table());
    }

    private String blanks(int least) {
        return " ".repeat(least + (random.nextInt(12) == 0 ? random.nextInt(3) : 0));
    }

    private String number(int below) {
        int number = random.nextInt(Math.max(1, below));
        return (random.nextInt(15) == 0 ? "0" : "") + number;
    }

    /** A text that most often has no fault. */
    private String fineText() {
        int n = 3 + random.nextInt(6);
        StringBuilder text = new StringBuilder(blanks(0)).append("table").append(blanks(1)).append(n);
        int knights = 1 + random.nextInt(6);
        for (int k = 0; k < knights; k++) {
            String word = WORDS[random.nextInt(3) == 0 ? 6 + random.nextInt(2) : 5];
            text.append(';').append(blanks(0)).append(word).append(blanks(0)).append(number(10)).append(blanks(1))
                .append(number(10));
        }
        int more = random.nextInt(13 - knights);
        for (int i = 0; i < more; i++) {
            text.append(blanks(0)).append(';');
            int word = 1 + random.nextInt(10);
            if (word >= 5 && word <= 7) {
                word = 9;
            }
            text.append(WORDS[word]).append(blanks(0));
            text.append(number(word == 8 || word == 10 ? knights : n));
            if (word != 4 && word != 10) {
                text.append(blanks(1)).append(number(word == 8 ? knights : word == 9 ? 8 : 10));
            }
        }
        return text.toString();
    }

    /** A text that most often has one. */
    private String anyText() {
        StringBuilder text = new StringBuilder(random.nextInt(3) == 0 ? "" : fineText());
        int more = random.nextInt(16);
        for (int i = 0; i < more; i++) {
            switch (random.nextInt(7)) {
                case 0: text.append(WORDS[random.nextInt(WORDS.length)]); break;
                case 1: text.append(' ').append(random.nextInt(random.nextInt(10) == 0 ? 2000 : 10)); break;
                case 2: text.append(';'); break;
                case 3: text.append(' '); break;
                case 4: text.append(";peace"); break;
                case 5: text.append(";knight 5 5"); break;
                default: text.append((char) random.nextInt(256));
            }
        }
        if (random.nextInt(4) == 0 && text.length() > 0) {
            text.setCharAt(random.nextInt(text.length()), (char) random.nextInt(128));
        }
        return text.toString();
    }
}

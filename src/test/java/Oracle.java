import java.math.BigInteger;
import java.util.ArrayDeque;
import java.util.ArrayList;
import java.util.Deque;
import java.util.List;
import java.util.TreeSet;
import java.util.regex.Matcher;
import java.util.regex.Pattern;

/** The document told a second time, slowly and by other means, to compare the class with. */
final class Oracle {
    static final int NONE = -1, UNKNOWN = -2, OUTSIDE = -3, NOT = -4, FULL = -5;

    static final class Knight {
        final String kind;
        final int told, house;
        int renown;
        boolean there = true;
        TreeSet<Integer> news = new TreeSet<>();
        int seat = NONE;

        Knight(String kind, int told, int house) {
            this.kind = kind;
            this.told = told;
            this.house = house;
            this.renown = told;
        }

        Knight copy() {
            Knight k = new Knight(kind, told, house);
            k.renown = renown;
            k.there = there;
            k.news = new TreeSet<>(news);
            k.seat = seat;
            return k;
        }
    }

    static final class Name {
        final String kind;
        final int number;

        Name(String kind, int number) {
            this.kind = kind;
            this.number = number;
        }
    }

    static final class State {
        List<Name> names = new ArrayList<>();
        List<Knight> knights = new ArrayList<>();
        TreeSet<Integer> enemies = new TreeSet<>();
        int perilSeat, perilStep, meant = NONE, day;

        State copy() {
            State s = new State();
            s.names.addAll(names);
            for (Knight k : knights) {
                s.knights.add(k.copy());
            }
            s.enemies.addAll(enemies);
            s.perilSeat = perilSeat;
            s.perilStep = perilStep;
            s.meant = meant;
            s.day = day;
            return s;
        }

        int n() {
            return names.size();
        }

        int peril() {
            return n() == 0 ? NONE : (perilSeat + perilStep * day) % n();
        }

        boolean foes(int a, int b) {
            return enemies.contains(Math.min(a, b) * 10 + Math.max(a, b));
        }

        int at(int seat) {
            for (int k = 0; k < knights.size(); k++) {
                if (knights.get(k).seat == seat) {
                    return k;
                }
            }
            return NONE;
        }
    }

    String text = "";
    State now = new State();
    Deque<State> undo = new ArrayDeque<>();
    State[] kept = new State[2];
    List<int[]> seen = new ArrayList<>();

    // ---- the text

    private static final Pattern TOKEN = Pattern.compile("[a-z]+|[0-9]+|[^ ]", Pattern.DOTALL);

    private static List<String> split(String text, List<Integer> places) {
        List<String> tokens = new ArrayList<>();
        Matcher m = TOKEN.matcher(text);
        while (m.find()) {
            tokens.add(m.group());
            places.add(m.start());
        }
        tokens.add("");
        places.add(text.length());
        return tokens;
    }

    /** Does the clauses on s; answers the place of the fault, or -1 less the number of clauses. */
    private int read(State s) {
        List<Integer> places = new ArrayList<>();
        List<String> tokens = split(text, places);
        int t = 0;
        for (int clause = 1; ; clause++) {
            String word = tokens.get(t);
            String form;
            switch (word) {
                case "table": form = "N"; break;
                case "gold": case "meek": case "kin": form = "S9"; break;
                case "mourning": form = "S"; break;
                case "knight": case "squire": case "king":
                    if (s.knights.size() == 6) {
                        return places.get(t);
                    }
                    form = "99";
                    break;
                case "enemies": form = "AB"; break;
                case "peril": form = "S7"; break;
                case "meant": form = "A"; break;
                case "peace": form = ""; break;
                default: return places.get(t);
            }
            t++;
            int[] numbers = new int[2];
            for (int i = 0; i < form.length(); i++, t++) {
                String token = tokens.get(t);
                if (!token.matches("[0-9]{1,2}")) {
                    return places.get(t);
                }
                int number = Integer.parseInt(token);
                numbers[i] = number;
                boolean fine;
                switch (form.charAt(i)) {
                    case 'N': fine = number >= 3 && number <= 8; break;
                    case 'S': fine = number < s.n(); break;
                    case 'A': fine = number < s.knights.size(); break;
                    case 'B': fine = number < s.knights.size() && number != numbers[0]; break;
                    case '7': fine = number <= 7; break;
                    default: fine = number <= 9;
                }
                if (!fine) {
                    return places.get(t);
                }
            }
            obey(s, word, numbers[0], numbers[1]);
            String next = tokens.get(t);
            if (next.isEmpty()) {
                return -1 - clause;
            }
            if (!next.equals(";") || clause == 14) {
                return places.get(t);
            }
            t++;
        }
    }

    private static void obey(State s, String word, int a, int b) {
        switch (word) {
            case "table":
                s.names.clear();
                for (int i = 0; i < a; i++) {
                    s.names.add(new Name("open", 0));
                }
                s.knights.clear();
                s.enemies.clear();
                s.perilSeat = 0;
                s.perilStep = 0;
                s.meant = NONE;
                break;
            case "gold": case "meek": case "kin": case "mourning":
                s.names.set(a, new Name(word, b));
                break;
            case "knight": case "squire": case "king":
                s.knights.add(new Knight(word, a, b));
                break;
            case "enemies":
                s.enemies.add(Math.min(a, b) * 10 + Math.max(a, b));
                break;
            case "peril":
                s.perilSeat = a;
                s.perilStep = b;
                break;
            case "meant":
                s.meant = a;
                break;
            default:
                s.enemies.clear();
        }
    }

    int write(int letter) {
        if (letter < 0 || letter > 255) {
            return OUTSIDE;
        }
        if (text.length() == 160) {
            return FULL;
        }
        text += (char) letter;
        return text.length();
    }

    int erase() {
        int had = text.length();
        text = "";
        return had;
    }

    int fault() {
        return Math.max(NONE, read(now.copy()));
    }

    int table() {
        State s = now.copy();
        int done = read(s);
        if (done >= 0) {
            return NOT;
        }
        text = "";
        s.day = 0;
        for (int i = 0; i < s.knights.size(); i++) {
            Knight k = s.knights.get(i);
            s.knights.set(i, new Knight(k.kind, k.told, k.house));
        }
        now = s;
        undo.clear();
        kept = new State[2];
        seen.clear();
        return -1 - done;
    }

    // ---- who and where

    private boolean noSeat(int seat) {
        return seat < 0 || seat >= now.n();
    }

    private boolean noKnight(int knight) {
        return knight < 0 || knight >= now.knights.size();
    }

    private static boolean fits(Name name, Knight k, int renown) {
        if (name.kind.equals("mourning")) {
            return false;
        }
        return k.kind.equals("king") || name.kind.equals("open")
            || name.kind.equals("gold") && renown >= name.number
            || name.kind.equals("meek") && renown <= name.number
            || name.kind.equals("kin") && k.house == name.number;
    }

    private static boolean wrong(State s, int knight, int seat) {
        Knight k = s.knights.get(knight);
        return !fits(s.names.get(seat), k, k.renown)
            || s.peril() == seat && s.meant != knight && !k.kind.equals("squire");
    }

    int seat(int seat, int what) {
        if (noSeat(seat)) {
            return UNKNOWN;
        }
        if (what < 0 || what > 3) {
            return OUTSIDE;
        }
        Name name = now.names.get(seat);
        int[] all = {List.of("open", "gold", "meek", "kin", "mourning").indexOf(name.kind), name.number,
            now.at(seat), now.peril() == seat ? 1 : 0};
        return all[what];
    }

    int knight(int knight, int what) {
        if (noKnight(knight)) {
            return UNKNOWN;
        }
        if (what < 0 || what > 6) {
            return OUTSIDE;
        }
        Knight k = now.knights.get(knight);
        int foes = 0;
        for (int o = 0; o < now.knights.size(); o++) {
            foes |= now.foes(knight, o) ? 1 << o : 0;
        }
        int[] all = {List.of("knight", "squire", "king").indexOf(k.kind), k.renown, k.house, foes,
            k.there ? 1 : 0, newsOf(k), k.seat};
        return all[what];
    }

    private static int newsOf(Knight k) {
        int bits = 0;
        for (int news : k.news) {
            bits |= 1 << news;
        }
        return bits;
    }

    int as(int knight, int kind) {
        if (noKnight(knight)) {
            return UNKNOWN;
        }
        if (kind < 0 || kind > 3) {
            return OUTSIDE;
        }
        Knight k = now.knights.get(knight);
        String such = k.kind.equals("knight") ? "01" : k.kind.equals("squire") ? "02" : "013";
        if (such.indexOf('0' + kind) < 0) {
            return NOT;
        }
        int bits = 0;
        for (int s = 0; s < now.n(); s++) {
            bits |= fits(now.names.get(s), k, k.renown) ? 1 << s : 0;
        }
        return bits;
    }

    int seatAs(int seat, int kind) {
        if (noSeat(seat)) {
            return UNKNOWN;
        }
        if (kind < 0 || kind > 5) {
            return OUTSIDE;
        }
        String such = List.of("01", "012", "013", "04", "05").get(seat(seat, 0));
        if (such.indexOf('0' + kind) < 0) {
            return NOT;
        }
        int bits = 0;
        for (int i = 0; i < now.knights.size(); i++) {
            Knight k = now.knights.get(i);
            bits |= k.there && fits(now.names.get(seat), k, k.renown) ? 1 << i : 0;
        }
        return bits;
    }

    // ---- feasts

    private void remember() {
        undo.addLast(now.copy());
        if (undo.size() > 8) {
            undo.removeFirst();
        }
    }

    private int sitting() {
        int bits = 0;
        for (int i = 0; i < now.knights.size(); i++) {
            bits |= now.knights.get(i).seat != NONE ? 1 << i : 0;
        }
        return bits;
    }

    int sit(int knight, int seat) {
        if (noKnight(knight) || noSeat(seat)) {
            return UNKNOWN;
        }
        Knight k = now.knights.get(knight);
        if (!k.there || k.seat != NONE || now.at(seat) != NONE) {
            return NOT;
        }
        remember();
        k = now.knights.get(knight);
        k.seat = seat;
        return Integer.bitCount(sitting());
    }

    int rise() {
        remember();
        int sat = Integer.bitCount(sitting());
        for (Knight k : now.knights) {
            k.seat = NONE;
        }
        return sat;
    }

    int tell(int knight, int news) {
        if (noKnight(knight)) {
            return UNKNOWN;
        }
        if (news < 0 || news > 3) {
            return OUTSIDE;
        }
        if (!now.knights.get(knight).there) {
            return NOT;
        }
        remember();
        now.knights.get(knight).news.add(news);
        return newsOf(now.knights.get(knight));
    }

    int feast() {
        if (sitting() == 0) {
            return NOT;
        }
        if (now.day == 999) {
            return FULL;
        }
        remember();
        State was = now.copy();
        int n = was.n();
        int taken = 0;
        for (int i = 0; i < was.knights.size(); i++) {
            Knight old = was.knights.get(i);
            Knight k = now.knights.get(i);
            k.seat = NONE;
            if (old.seat == NONE) {
                continue;
            }
            int left = was.at((old.seat + 1) % n);
            int right = was.at((old.seat + n - 1) % n);
            if (left != NONE) {
                k.news.addAll(was.knights.get(left).news);
            }
            if (wrong(was, i, old.seat)) {
                taken |= 1 << i;
                k.there = false;
            } else if (left != NONE && was.foes(i, left) || right != NONE && was.foes(i, right)) {
                k.renown = old.renown == 0 ? 0 : old.renown - 1;
            } else {
                k.renown = old.renown == 9 ? 9 : old.renown + 1;
            }
        }
        now.day++;
        return taken;
    }

    int undo() {
        if (undo.isEmpty()) {
            return NOT;
        }
        now = undo.removeLast();
        return undo.size();
    }

    int keep(int k) {
        if (k != 0 && k != 1) {
            return UNKNOWN;
        }
        kept[k] = now.copy();
        return now.day;
    }

    int back(int k) {
        if (k != 0 && k != 1) {
            return UNKNOWN;
        }
        if (kept[k] == null) {
            return NOT;
        }
        now = kept[k].copy();
        undo.clear();
        return now.day;
    }

    // ---- foretold

    /** All rows in which each knight who is there sits somewhere, in order; then those that are seatings. */
    private List<int[]> allSeatings(State s) {
        List<int[]> rows = new ArrayList<>();
        int m = s.knights.size();
        int n = s.n();
        int[] start = new int[m];
        java.util.Arrays.fill(start, NONE);
        rows.add(start);
        for (int k = 0; k < m; k++) {
            if (!s.knights.get(k).there) {
                continue;
            }
            List<int[]> more = new ArrayList<>();
            for (int[] row : rows) {
                for (int seat = 0; seat < n; seat++) {
                    int[] next = row.clone();
                    next[k] = seat;
                    if (isFine(s, next, k)) {
                        more.add(next);
                    }
                }
            }
            rows = more;
        }
        return rows;
    }

    private static boolean isFine(State s, int[] row, int last) {
        if (wrong(s, last, row[last])) {
            return false;
        }
        for (int k = 0; k < last; k++) {
            int apart = Math.floorMod(row[k] - row[last], s.n());
            if (row[k] != NONE && (apart == 0 || s.foes(k, last) && (apart == 1 || apart == s.n() - 1))) {
                return false;
            }
        }
        return true;
    }

    int seatings() {
        return allSeatings(now).size();
    }

    int seatOf(int knight) {
        if (noKnight(knight)) {
            return UNKNOWN;
        }
        List<int[]> all = allSeatings(now);
        return all.isEmpty() ? NONE : all.get(0)[knight];
    }

    int moved() {
        int best = NONE;
        for (int[] row : allSeatings(now)) {
            int away = 0;
            for (int k = 0; k < row.length; k++) {
                away += row[k] != now.knights.get(k).seat ? 1 : 0;
            }
            best = best == NONE ? away : Math.min(best, away);
        }
        return best;
    }

    int knows(int news) {
        if (news < 0 || news > 3) {
            return OUTSIDE;
        }
        int best = NONE;
        for (int[] row : allSeatings(now)) {
            int know = 0;
            for (int k = 0; k < row.length; k++) {
                boolean does = now.knights.get(k).news.contains(news);
                for (int o = 0; o < row.length; o++) {
                    does |= row[o] != NONE && row[k] != NONE && row[o] == (row[k] + 1) % now.n()
                        && now.knights.get(o).news.contains(news);
                }
                know += does && row[k] != NONE ? 1 : 0;
            }
            best = Math.max(best, know);
        }
        return best;
    }

    int judge(int what) {
        int wrongs = 0;
        int quarrels = 0;
        for (int i = 0; i < now.knights.size(); i++) {
            int seat = now.knights.get(i).seat;
            if (seat == NONE) {
                continue;
            }
            wrongs |= wrong(now, i, seat) ? 1 << i : 0;
            for (int j = 0; j < i; j++) {
                int other = now.knights.get(j).seat;
                int apart = Math.abs(seat - other);
                if (other != NONE && now.foes(i, j) && (apart == 1 || apart == now.n() - 1)) {
                    quarrels++;
                }
            }
        }
        return what == 0 ? wrongs : what == 1 ? quarrels : OUTSIDE;
    }

    // ---- what is seen

    int seen(int knight, int seat, int day, int taken) {
        if (noKnight(knight) || noSeat(seat)) {
            return UNKNOWN;
        }
        if (day < 0 || day > now.day || taken != 0 && taken != 1) {
            return OUTSIDE;
        }
        if (seen.size() == 8) {
            return FULL;
        }
        seen.add(new int[] {knight, seat, day, taken});
        return seen.size();
    }

    int forget() {
        int were = seen.size();
        seen.clear();
        return were;
    }

    /** Each world as where it is on this day, and for whom. */
    private List<int[]> allWorlds() {
        List<int[]> all = new ArrayList<>();
        int n = now.n();
        for (int world = 0; world < n * n * 7; world++) {
            int start = world / 7 / n;
            int step = world / 7 % n;
            int meant = world % 7;
            if (meant != 6 && meant >= now.knights.size()) {
                continue;
            }
            boolean fine = true;
            for (int[] s : seen) {
                boolean peril = Math.floorMod(start + step * s[2] - s[1], n) == 0;
                fine &= (peril && meant != s[0]) == (s[3] == 1);
            }
            if (fine) {
                all.add(new int[] {(start + step * now.day) % n, meant});
            }
        }
        return all;
    }

    int worlds(int what) {
        if (what < 0 || what > 2) {
            return OUTSIDE;
        }
        int where = 0;
        int whom = 0;
        for (int[] w : allWorlds()) {
            where |= 1 << w[0];
            whom |= 1 << w[1];
        }
        return what == 0 ? allWorlds().size() : what == 1 ? where : whom;
    }

    int safest(int knight, int what) {
        if (noKnight(knight)) {
            return UNKNOWN;
        }
        if (what < 0 || what > 1) {
            return OUTSIDE;
        }
        Knight k = now.knights.get(knight);
        int best = NONE;
        int least = Integer.MAX_VALUE;
        for (int seat = 0; seat < now.n(); seat++) {
            int risk = 0;
            for (int[] w : allWorlds()) {
                risk += w[0] == seat && w[1] != knight && !k.kind.equals("squire") ? 1 : 0;
            }
            if (fits(now.names.get(seat), k, k.renown) && risk < least) {
                best = seat;
                least = risk;
            }
        }
        return best == NONE ? NONE : what == 0 ? best : least;
    }

    long quests(int knight, int seat, int n, int p, int part) {
        if (noKnight(knight) || noSeat(seat)) {
            return UNKNOWN;
        }
        if (n < 0 || n > 8 || p < 0 || p > 10 || part < 0 || part > 1) {
            return OUTSIDE;
        }
        Knight k = now.knights.get(knight);
        BigInteger above = BigInteger.ZERO;
        for (int each = 0; each < 1 << n; each++) {
            BigInteger way = BigInteger.ONE;
            for (int i = 0; i < n; i++) {
                way = way.multiply(BigInteger.valueOf((each >> i & 1) == 1 ? p : 10 - p));
            }
            int renown = Math.min(9, k.renown + Integer.bitCount(each));
            if (fits(now.names.get(seat), k, renown)) {
                above = above.add(way);
            }
        }
        BigInteger below = BigInteger.TEN.pow(n);
        BigInteger common = above.gcd(below);
        return (part == 0 ? above : below).divide(common).longValueExact();
    }

    int lent(int seat) {
        if (noSeat(seat)) {
            return UNKNOWN;
        }
        State s = now.copy();
        s.names.set(seat, new Name("open", 0));
        return allSeatings(s).size() - allSeatings(now).size();
    }

    int count(int what) {
        int there = 0;
        for (int i = 0; i < now.knights.size(); i++) {
            there |= now.knights.get(i).there ? 1 << i : 0;
        }
        int[] all = {now.n(), now.knights.size(), now.day, now.peril(), there, sitting(), seen.size(),
            now.enemies.size(), undo.size(), text.length()};
        return what < 0 || what > 9 ? OUTSIDE : all[what];
    }
}

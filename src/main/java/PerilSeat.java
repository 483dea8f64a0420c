/**
 * A round table with names on its seats, one seat that takes whoever is wrong in it, and the feasts held there.
 *
 * The words of the document (SEAT, KNIGHT, THE PERIL, a FEAST, SEATINGS, WORLDS ..) are used here as it uses them;
 * "behind" a seat is the next one of the ring. Every row is made in a constructor and used again, so no call makes
 * an object.
 */
public final class PerilSeat {
    public static final int NONE = -1, UNKNOWN = -2, OUTSIDE = -3, NOT = -4, FULL = -5;

    private static final int LEAST_SEATS = 3, MOST_SEATS = 8, MOST_KNIGHTS = 6, MOST_STEP = 7;
    private static final int MOST_RENOWN = 9, MOST_NEWS = 4, LAST_DAY = 999;
    private static final int MOST_LETTERS = 160, MOST_LETTER = 255, MOST_CLAUSES = 14, MOST_DIGITS = 2;
    private static final int MOST_SEEN = 8, MOST_UNDONE = 8, MOST_KEPT = 2;
    private static final int MOST_QUESTS = 8, TENTHS = 10;

    /** KINDS of NAMES, and of KNIGHTS, as seat() and knight() tell them. */
    private static final int OPEN = 0, GOLD = 1, MEEK = 2, KIN = 3, MOURNING = 4;
    private static final int KNIGHT = 0, SQUIRE = 1, KING = 2;

    /** By a KIND as as() and seatAs() count them, the KIND over it; a KIND as told stands one further on in them. */
    private static final int[] OVER_KNIGHTS = {NONE, 0, 0, 1};
    private static final int[] OVER_NAMES = {NONE, 0, 1, 1, 0, 0};

    /** The bit that tells, among those for whom THE PERIL can be, that it is for none. */
    private static final int FOR_NONE = 6;

    private final Reader reader;
    private final Told told;
    private final Evening now;
    private final Memory memory;
    private final Witness witness;
    private final Search search;
    private final int[] heard;

    public PerilSeat() {
        reader = new Reader();
        told = new Told();
        now = new Evening();
        memory = new Memory();
        witness = new Witness();
        search = new Search();
        heard = new int[MOST_KNIGHTS];
    }

    // ---- what is told

    public int write(int letter) {
        if (letter < 0 || letter > MOST_LETTER) {
            return OUTSIDE;
        }
        if (reader.scroll.length >= MOST_LETTERS) {
            return FULL;
        }
        reader.scroll.add(letter);
        return reader.scroll.length;
    }

    public int erase() {
        int had = reader.scroll.length;
        reader.scroll.length = 0;
        return had;
    }

    public int fault() {
        return reader.read(told, false);
    }

    public int table() {
        // Read once without doing anything: a text with a fault anywhere must change nothing.
        if (reader.read(told, false) != NONE) {
            return NOT;
        }
        reader.read(told, true);
        reader.scroll.length = 0;
        now.begin(told);
        memory.clear();
        witness.sights = 0;
        return reader.clauses;
    }

    public int seat(int seat, int what) {
        if (!isSeat(seat)) {
            return UNKNOWN;
        }
        switch (what) {
            case 0:
                return told.nameKind[seat];
            case 1:
                return told.nameNumber[seat];
            case 2:
                return now.whoSitsOn(seat);
            case 3:
                return told.perilOn(now.day) == seat ? 1 : 0;
            default:
                return OUTSIDE;
        }
    }

    public int knight(int knight, int what) {
        if (!isKnight(knight)) {
            return UNKNOWN;
        }
        switch (what) {
            case 0:
                return told.kind[knight];
            case 1:
                return now.renown[knight];
            case 2:
                return told.house[knight];
            case 3:
                return told.enemies[knight];
            case 4:
                return has(now.there, knight) ? 1 : 0;
            case 5:
                return now.news[knight];
            case 6:
                return now.place[knight];
            default:
                return OUTSIDE;
        }
    }

    public int as(int knight, int kind) {
        if (!isKnight(knight)) {
            return UNKNOWN;
        }
        if (kind < 0 || kind >= OVER_KNIGHTS.length) {
            return OUTSIDE;
        }
        if (!isOfKind(OVER_KNIGHTS, told.kind[knight] + 1, kind)) {
            return NOT;
        }
        int seats = 0;
        for (int seat = 0; seat < told.seats; seat++) {
            if (fitsNow(knight, seat)) {
                seats |= 1 << seat;
            }
        }
        return seats;
    }

    public int seatAs(int seat, int kind) {
        if (!isSeat(seat)) {
            return UNKNOWN;
        }
        if (kind < 0 || kind >= OVER_NAMES.length) {
            return OUTSIDE;
        }
        if (!isOfKind(OVER_NAMES, told.nameKind[seat] + 1, kind)) {
            return NOT;
        }
        int knights = 0;
        for (int knight = 0; knight < told.knights; knight++) {
            if (has(now.there, knight) && fitsNow(knight, seat)) {
                knights |= 1 << knight;
            }
        }
        return knights;
    }

    // ---- feasts

    public int sit(int knight, int seat) {
        if (!isKnight(knight) || !isSeat(seat)) {
            return UNKNOWN;
        }
        if (!has(now.there, knight) || now.place[knight] != NONE || now.whoSitsOn(seat) != NONE) {
            return NOT;
        }
        memory.remember(now);
        now.place[knight] = seat;
        return Integer.bitCount(now.whoSit());
    }

    public int rise() {
        int sat = Integer.bitCount(now.whoSit());
        memory.remember(now);
        now.allRise();
        return sat;
    }

    public int tell(int knight, int news) {
        if (!isKnight(knight)) {
            return UNKNOWN;
        }
        if (!isNews(news)) {
            return OUTSIDE;
        }
        if (!has(now.there, knight)) {
            return NOT;
        }
        memory.remember(now);
        now.news[knight] |= 1 << news;
        return now.news[knight];
    }

    public int feast() {
        if (now.whoSit() == 0) {
            return NOT;
        }
        if (now.day >= LAST_DAY) {
            return FULL;
        }
        memory.remember(now);
        int taken = whoIsWrong();
        changeRenown(taken);
        spreadNews();
        now.there &= ~taken;
        now.allRise();
        now.day++;
        return taken;
    }

    public int undo() {
        if (memory.undoable == 0) {
            return NOT;
        }
        memory.recall(now);
        return memory.undoable;
    }

    public int keep(int k) {
        if (k < 0 || k >= MOST_KEPT) {
            return UNKNOWN;
        }
        memory.kept[k].copy(now);
        memory.isKept |= 1 << k;
        return now.day;
    }

    public int back(int k) {
        if (k < 0 || k >= MOST_KEPT) {
            return UNKNOWN;
        }
        if (!has(memory.isKept, k)) {
            return NOT;
        }
        now.copy(memory.kept[k]);
        memory.undoable = 0;
        return now.day;
    }

    // ---- foretold

    public int seatings() {
        prepareSearch(NONE);
        return search.ways();
    }

    public int seatOf(int knight) {
        if (!isKnight(knight)) {
            return UNKNOWN;
        }
        prepareSearch(NONE);
        if (!has(now.there, knight) || !search.first()) {
            return NONE;
        }
        return search.place[knight];
    }

    public int moved() {
        prepareSearch(NONE);
        return search.fewestAway();
    }

    public int knows(int news) {
        if (!isNews(news)) {
            return OUTSIDE;
        }
        prepareSearch(NONE);
        return search.mostKnow(whoKnows(news));
    }

    public int judge(int what) {
        switch (what) {
            case 0:
                return whoIsWrong();
            case 1:
                return quarrels();
            default:
                return OUTSIDE;
        }
    }

    // ---- what is seen

    public int seen(int knight, int seat, int day, int taken) {
        if (!isKnight(knight) || !isSeat(seat)) {
            return UNKNOWN;
        }
        if (day < 0 || day > now.day || taken < 0 || taken > 1) {
            return OUTSIDE;
        }
        if (witness.sights >= MOST_SEEN) {
            return FULL;
        }
        witness.note(knight, seat, day, taken == 1);
        return witness.sights;
    }

    public int forget() {
        int were = witness.sights;
        witness.sights = 0;
        return were;
    }

    public int worlds(int what) {
        if (what < 0 || what > 2) {
            return OUTSIDE;
        }
        witness.survey(told, now.day, NONE);
        switch (what) {
            case 0:
                return witness.worlds;
            case 1:
                return witness.where;
            default:
                return witness.forWhom;
        }
    }

    public int safest(int knight, int what) {
        if (!isKnight(knight)) {
            return UNKNOWN;
        }
        if (what < 0 || what > 1) {
            return OUTSIDE;
        }
        witness.survey(told, now.day, knight);
        int safest = NONE;
        int fewest = NONE;
        for (int seat = 0; seat < told.seats; seat++) {
            // THE PERIL takes no SQUIRE, so for him no world is worse than another.
            int risk = told.kind[knight] == SQUIRE ? 0 : witness.risk[seat];
            if (fitsNow(knight, seat) && (safest == NONE || risk < fewest)) {
                safest = seat;
                fewest = risk;
            }
        }
        return what == 0 ? safest : fewest;
    }

    public long quests(int knight, int seat, int n, int p, int part) {
        if (!isKnight(knight) || !isSeat(seat)) {
            return UNKNOWN;
        }
        if (n < 0 || n > MOST_QUESTS || p < 0 || p > TENTHS || part < 0 || part > 1) {
            return OUTSIDE;
        }
        long above = 0;
        long choices = 1;
        for (int done = 0; done <= n; done++) {
            int renown = Math.min(MOST_RENOWN, now.renown[knight] + done);
            if (told.fits(knight, renown, seat)) {
                above += choices * power(p, done) * power(TENTHS - p, n - done);
            }
            choices = choices * (n - done) / (done + 1);
        }
        long below = power(TENTHS, n);
        long common = commonDivisor(below, above);
        if (common == 0) {
            return OUTSIDE;
        }
        return part == 0 ? above / common : below / common;
    }

    public int lent(int seat) {
        if (!isSeat(seat)) {
            return UNKNOWN;
        }
        prepareSearch(NONE);
        int asTold = search.ways();
        prepareSearch(seat);
        return search.ways() - asTold;
    }

    public int count(int what) {
        switch (what) {
            case 0:
                return told.seats;
            case 1:
                return told.knights;
            case 2:
                return now.day;
            case 3:
                return told.perilOn(now.day);
            case 4:
                return now.there;
            case 5:
                return now.whoSit();
            case 6:
                return witness.sights;
            case 7:
                return told.pairsOfEnemies();
            case 8:
                return memory.undoable;
            case 9:
                return reader.scroll.length;
            default:
                return OUTSIDE;
        }
    }

    // ---- what the calls share

    private boolean isSeat(int seat) {
        return seat >= 0 && seat < told.seats;
    }

    private boolean isKnight(int knight) {
        return knight >= 0 && knight < told.knights;
    }

    private static boolean isNews(int news) {
        return news >= 0 && news < MOST_NEWS;
    }

    private static boolean has(int bits, int at) {
        return (bits >> at & 1) != 0;
    }

    private static int behind(int seat, int seats) {
        return seat + 1 < seats ? seat + 1 : 0;
    }

    private static int ahead(int seat, int seats) {
        return seat > 0 ? seat - 1 : seats - 1;
    }

    /** Whether a KIND is the one asked for, or under it. */
    private static boolean isOfKind(int[] over, int kind, int asked) {
        int at = kind;
        for (int step = 0; step < over.length; step++) {
            if (at == asked) {
                return true;
            }
            if (at < 0 || at >= over.length) {
                return false;
            }
            at = over[at];
        }
        return false;
    }

    private boolean fitsNow(int knight, int seat) {
        return told.fits(knight, now.renown[knight], seat);
    }

    /** Whether THE PERIL would take him on that SEAT on this DAY, whatever its NAME is. */
    private boolean isInPeril(int knight, int seat) {
        return told.perilOn(now.day) == seat && told.meant != knight && told.kind[knight] != SQUIRE;
    }

    private int whoIsWrong() {
        int wrong = 0;
        for (int knight = 0; knight < told.knights; knight++) {
            int seat = now.place[knight];
            if (seat != NONE && (!fitsNow(knight, seat) || isInPeril(knight, seat))) {
                wrong |= 1 << knight;
            }
        }
        return wrong;
    }

    /** Of those who are there: who was TAKEN hears and is heard at no later FEAST. */
    private int whoKnows(int news) {
        int knowing = 0;
        for (int knight = 0; knight < told.knights; knight++) {
            if (has(now.there, knight) && has(now.news[knight], news)) {
                knowing |= 1 << knight;
            }
        }
        return knowing;
    }

    private boolean areEnemies(int one, int other) {
        return one != NONE && other != NONE && has(told.enemies[one], other);
    }

    private int whoSitsBehind(int seat) {
        return now.whoSitsOn(behind(seat, told.seats));
    }

    private int quarrels() {
        int quarrels = 0;
        for (int seat = 0; seat < told.seats; seat++) {
            if (areEnemies(now.whoSitsOn(seat), whoSitsBehind(seat))) {
                quarrels++;
            }
        }
        return quarrels;
    }

    private void changeRenown(int taken) {
        for (int knight = 0; knight < told.knights; knight++) {
            int seat = now.place[knight];
            if (seat == NONE || has(taken, knight)) {
                continue;
            }
            boolean quarrels = areEnemies(knight, whoSitsBehind(seat))
                    || areEnemies(knight, now.whoSitsOn(ahead(seat, told.seats)));
            now.renown[knight] = quarrels
                    ? Math.max(0, now.renown[knight] - 1)
                    : Math.min(MOST_RENOWN, now.renown[knight] + 1);
        }
    }

    /** All hear at once, so what is heard is gathered ahead of anybody's coming to know it. */
    private void spreadNews() {
        for (int knight = 0; knight < told.knights; knight++) {
            int seat = now.place[knight];
            int teller = seat == NONE ? NONE : whoSitsBehind(seat);
            heard[knight] = teller == NONE ? 0 : now.news[teller];
        }
        for (int knight = 0; knight < told.knights; knight++) {
            now.news[knight] |= heard[knight];
        }
    }

    /** Tells the search who may sit where on this DAY; the lent SEAT, if any, is taken as OPEN. */
    private void prepareSearch(int lent) {
        search.seats = told.seats;
        search.knights = told.knights;
        search.there = now.there;
        for (int knight = 0; knight < told.knights; knight++) {
            int good = 0;
            for (int seat = 0; seat < told.seats; seat++) {
                if ((seat == lent || fitsNow(knight, seat)) && !isInPeril(knight, seat)) {
                    good |= 1 << seat;
                }
            }
            search.good[knight] = good;
            search.enemies[knight] = told.enemies[knight];
            search.row[knight] = now.place[knight];
        }
    }

    private static long power(int base, int times) {
        long power = 1;
        for (int i = 0; i < times; i++) {
            power *= base;
        }
        return power;
    }

    private static long commonDivisor(long one, long other) {
        long a = one;
        long b = other;
        // Euclid's way ends within 100 steps for numbers of this size.
        for (int step = 0; step < 100 && b != 0; step++) {
            long rest = a % b;
            a = b;
            b = rest;
        }
        return a;
    }

    /** THE TEXT, and the TOKEN of it that was read last. */
    private static final class Scroll {
        static final int END = 0, WORD = 1, NUMBER = 2, SIGN = 3;
        static final int BLANK = ' ';

        final int[] letters = new int[MOST_LETTERS];
        int length;
        int token;
        int begin;
        int end;

        void add(int letter) {
            if (length < MOST_LETTERS) {
                letters[length] = letter;
                length++;
            }
        }

        /** From here on the next TOKEN is the first. */
        void rewind() {
            token = END;
            begin = 0;
            end = 0;
        }

        /** Reads the next TOKEN; behind the last one it is END, and begins at the length. */
        void advance() {
            int at = end;
            while (at < length && letters[at] == BLANK) {
                at++;
            }
            begin = at;
            if (at >= length) {
                token = END;
                end = length;
                return;
            }
            token = tokenOf(letters[at]);
            at++;
            while (token != SIGN && at < length && tokenOf(letters[at]) == token) {
                at++;
            }
            end = at;
        }

        private static int tokenOf(int letter) {
            if (letter >= 'a' && letter <= 'z') {
                return WORD;
            }
            return letter >= '0' && letter <= '9' ? NUMBER : SIGN;
        }

        boolean isSemicolon() {
            return token == SIGN && begin < length && letters[begin] == ';';
        }

        /** The number that stands here; NONE, which is out of all bounds, if it is no number or has too many digits. */
        int number() {
            if (token != NUMBER || end - begin > MOST_DIGITS) {
                return NONE;
            }
            int number = 0;
            for (int at = begin; at < end; at++) {
                number = number * 10 + (letters[at] - '0');
            }
            return number;
        }
    }

    /** Reads THE TEXT to its first FAULT, CLAUSE by CLAUSE. */
    private static final class Reader {
        static final int TABLE_WORD = 0, GOLD_WORD = 1, MEEK_WORD = 2, KIN_WORD = 3, MOURNING_WORD = 4;
        static final int KNIGHT_WORD = 5, SQUIRE_WORD = 6, KING_WORD = 7;
        static final int ENEMIES_WORD = 8, PERIL_WORD = 9, MEANT_WORD = 10, PEACE_WORD = 11;

        /** The words in the order of their numbers above, a point behind each. */
        private static final char[] WORDS = {
            't', 'a', 'b', 'l', 'e', '.',
            'g', 'o', 'l', 'd', '.',
            'm', 'e', 'e', 'k', '.',
            'k', 'i', 'n', '.',
            'm', 'o', 'u', 'r', 'n', 'i', 'n', 'g', '.',
            'k', 'n', 'i', 'g', 'h', 't', '.',
            's', 'q', 'u', 'i', 'r', 'e', '.',
            'k', 'i', 'n', 'g', '.',
            'e', 'n', 'e', 'm', 'i', 'e', 's', '.',
            'p', 'e', 'r', 'i', 'l', '.',
            'm', 'e', 'a', 'n', 't', '.',
            'p', 'e', 'a', 'c', 'e', '.',
        };

        final Scroll scroll = new Scroll();
        int clauses;
        private int seats;
        private int knights;
        private int word;
        private int first;
        private int second;

        /** The place of the FAULT, or NONE; if doing, each CLAUSE ahead of it is done as it is read. */
        int read(Told told, boolean doing) {
            scroll.rewind();
            seats = told.seats;
            knights = told.knights;
            for (int clause = 1; clause <= MOST_CLAUSES; clause++) {
                clauses = clause;
                if (!readClause()) {
                    return scroll.begin;
                }
                if (doing) {
                    told.obey(word, first, second);
                }
                scroll.advance();
                if (scroll.token == Scroll.END) {
                    return NONE;
                }
                if (!scroll.isSemicolon()) {
                    return scroll.begin;
                }
            }
            // The ; that was read last stands behind the last CLAUSE there can be.
            return scroll.begin;
        }

        /** Whether a CLAUSE stands here; if not, the FAULT is at the TOKEN that was read last. */
        private boolean readClause() {
            scroll.advance();
            word = wordThatStandsHere();
            if (word == NONE || isKnightWord(word) && knights >= MOST_KNIGHTS) {
                return false;
            }
            first = NONE;
            second = NONE;
            int numbers = numbersBehind(word);
            if (numbers >= 1) {
                scroll.advance();
                first = scroll.number();
                if (first < leastNumber(word) || first > mostFirst(word)) {
                    return false;
                }
            }
            if (numbers >= 2) {
                scroll.advance();
                second = scroll.number();
                if (second < 0 || second > mostSecond(word) || word == ENEMIES_WORD && second == first) {
                    return false;
                }
            }
            tally();
            return true;
        }

        /** What SEATS and KNIGHTS there are behind this CLAUSE, whether it is done or only read. */
        private void tally() {
            if (word == TABLE_WORD) {
                seats = first;
                knights = 0;
            } else if (isKnightWord(word)) {
                knights++;
            }
        }

        private int wordThatStandsHere() {
            if (scroll.token != Scroll.WORD) {
                return NONE;
            }
            int number = 0;
            int at = scroll.begin;
            boolean alike = true;
            for (int i = 0; i < WORDS.length; i++) {
                if (WORDS[i] == '.') {
                    if (alike && at == scroll.end) {
                        return number;
                    }
                    number++;
                    at = scroll.begin;
                    alike = true;
                } else if (alike && at < scroll.end && scroll.letters[at] == WORDS[i]) {
                    at++;
                } else {
                    alike = false;
                }
            }
            return NONE;
        }

        static boolean isKnightWord(int word) {
            return word >= KNIGHT_WORD && word <= KING_WORD;
        }

        private static int numbersBehind(int word) {
            switch (word) {
                case PEACE_WORD:
                    return 0;
                case TABLE_WORD:
                case MOURNING_WORD:
                case MEANT_WORD:
                    return 1;
                default:
                    return 2;
            }
        }

        private static int leastNumber(int word) {
            return word == TABLE_WORD ? LEAST_SEATS : 0;
        }

        private int mostFirst(int word) {
            switch (word) {
                case TABLE_WORD:
                    return MOST_SEATS;
                case KNIGHT_WORD:
                case SQUIRE_WORD:
                case KING_WORD:
                    return MOST_RENOWN;
                case ENEMIES_WORD:
                case MEANT_WORD:
                    return knights - 1;
                default:
                    return seats - 1;
            }
        }

        private int mostSecond(int word) {
            switch (word) {
                case ENEMIES_WORD:
                    return knights - 1;
                case PERIL_WORD:
                    return MOST_STEP;
                default:
                    return MOST_RENOWN;
            }
        }
    }

    /** What the texts told: only a text makes it other. */
    private static final class Told {
        int seats;
        int knights;
        final int[] nameKind = new int[MOST_SEATS];
        final int[] nameNumber = new int[MOST_SEATS];
        final int[] kind = new int[MOST_KNIGHTS];
        final int[] renown = new int[MOST_KNIGHTS];
        final int[] house = new int[MOST_KNIGHTS];
        final int[] enemies = new int[MOST_KNIGHTS];
        int perilSeat;
        int perilStep;
        int meant = NONE;

        /** Does a CLAUSE whose numbers the reader has found in their bounds. */
        void obey(int word, int first, int second) {
            switch (word) {
                case Reader.TABLE_WORD:
                    layTable(first);
                    break;
                case Reader.GOLD_WORD:
                    nameSeat(first, GOLD, second);
                    break;
                case Reader.MEEK_WORD:
                    nameSeat(first, MEEK, second);
                    break;
                case Reader.KIN_WORD:
                    nameSeat(first, KIN, second);
                    break;
                case Reader.MOURNING_WORD:
                    nameSeat(first, MOURNING, 0);
                    break;
                case Reader.KNIGHT_WORD:
                    addKnight(KNIGHT, first, second);
                    break;
                case Reader.SQUIRE_WORD:
                    addKnight(SQUIRE, first, second);
                    break;
                case Reader.KING_WORD:
                    addKnight(KING, first, second);
                    break;
                case Reader.ENEMIES_WORD:
                    makeEnemies(first, second);
                    break;
                case Reader.PERIL_WORD:
                    perilSeat = first;
                    perilStep = second;
                    break;
                case Reader.MEANT_WORD:
                    meant = first;
                    break;
                default:
                    makePeace();
                    break;
            }
        }

        private void layTable(int n) {
            seats = n;
            knights = 0;
            for (int seat = 0; seat < MOST_SEATS; seat++) {
                nameKind[seat] = OPEN;
                nameNumber[seat] = 0;
            }
            makePeace();
            perilSeat = 0;
            perilStep = 0;
            meant = NONE;
        }

        private void nameSeat(int seat, int kindOfName, int number) {
            if (seat >= 0 && seat < seats) {
                nameKind[seat] = kindOfName;
                nameNumber[seat] = number;
            }
        }

        private void addKnight(int kindOfKnight, int itsRenown, int itsHouse) {
            if (knights < MOST_KNIGHTS) {
                kind[knights] = kindOfKnight;
                renown[knights] = itsRenown;
                house[knights] = itsHouse;
                knights++;
            }
        }

        private void makeEnemies(int one, int other) {
            if (one >= 0 && one < knights && other >= 0 && other < knights) {
                enemies[one] |= 1 << other;
                enemies[other] |= 1 << one;
            }
        }

        private void makePeace() {
            for (int knight = 0; knight < MOST_KNIGHTS; knight++) {
                enemies[knight] = 0;
            }
        }

        int pairsOfEnemies() {
            int sides = 0;
            for (int knight = 0; knight < knights; knight++) {
                sides += Integer.bitCount(enemies[knight]);
            }
            return sides / 2;
        }

        int perilOn(int day) {
            return perilFrom(perilSeat, perilStep, day);
        }

        /** Where THE PERIL is on a DAY if it was on start on DAY 0 and goes on by step; NONE if there are no SEATS. */
        int perilFrom(int start, int step, int day) {
            return seats == 0 ? NONE : (start + step * day) % seats;
        }

        /** Whether the SEAT's NAME fits the KNIGHT, were his RENOWN such. */
        boolean fits(int knight, int such, int seat) {
            if (nameKind[seat] == MOURNING) {
                return false;
            }
            if (kind[knight] == KING) {
                return true;
            }
            switch (nameKind[seat]) {
                case GOLD:
                    return such >= nameNumber[seat];
                case MEEK:
                    return such <= nameNumber[seat];
                case KIN:
                    return house[knight] == nameNumber[seat];
                default:
                    return true;
            }
        }
    }

    /** All that feasts make other: it can be kept, and taken back. */
    private static final class Evening {
        int day;
        int there;
        final int[] renown = new int[MOST_KNIGHTS];
        final int[] news = new int[MOST_KNIGHTS];
        final int[] place = new int[MOST_KNIGHTS];

        Evening() {
            for (int knight = 0; knight < MOST_KNIGHTS; knight++) {
                place[knight] = NONE;
            }
        }

        void begin(Told told) {
            day = 0;
            there = (1 << told.knights) - 1;
            for (int knight = 0; knight < MOST_KNIGHTS; knight++) {
                renown[knight] = told.renown[knight];
                news[knight] = 0;
            }
            allRise();
        }

        void copy(Evening other) {
            day = other.day;
            there = other.there;
            for (int knight = 0; knight < MOST_KNIGHTS; knight++) {
                renown[knight] = other.renown[knight];
                news[knight] = other.news[knight];
                place[knight] = other.place[knight];
            }
        }

        void allRise() {
            for (int knight = 0; knight < MOST_KNIGHTS; knight++) {
                place[knight] = NONE;
            }
        }

        int whoSitsOn(int seat) {
            for (int knight = 0; knight < MOST_KNIGHTS; knight++) {
                if (place[knight] == seat) {
                    return knight;
                }
            }
            return NONE;
        }

        int whoSit() {
            int sitting = 0;
            for (int knight = 0; knight < MOST_KNIGHTS; knight++) {
                if (place[knight] != NONE) {
                    sitting |= 1 << knight;
                }
            }
            return sitting;
        }
    }

    /** The evenings that undo() can go back to, a ring in which the oldest gives way, and those that were kept. */
    private static final class Memory {
        final Evening[] past = new Evening[MOST_UNDONE];
        final Evening[] kept = new Evening[MOST_KEPT];
        int undoable;
        int isKept;
        private int next;

        Memory() {
            for (int i = 0; i < MOST_UNDONE; i++) {
                past[i] = new Evening();
            }
            for (int k = 0; k < MOST_KEPT; k++) {
                kept[k] = new Evening();
            }
        }

        void clear() {
            undoable = 0;
            isKept = 0;
        }

        void remember(Evening evening) {
            past[next].copy(evening);
            next = next + 1 < MOST_UNDONE ? next + 1 : 0;
            undoable = Math.min(MOST_UNDONE, undoable + 1);
        }

        void recall(Evening evening) {
            next = next > 0 ? next - 1 : MOST_UNDONE - 1;
            evening.copy(past[next]);
            undoable--;
        }
    }

    /** What is SEEN, and the WORLDS that fit it. */
    private static final class Witness {
        private final int[] knight = new int[MOST_SEEN];
        private final int[] seat = new int[MOST_SEEN];
        private final int[] day = new int[MOST_SEEN];
        private final boolean[] taken = new boolean[MOST_SEEN];
        int sights;
        int worlds;
        int where;
        int forWhom;
        final int[] risk = new int[MOST_SEATS];

        void note(int whom, int onWhich, int when, boolean wasTaken) {
            if (sights < MOST_SEEN) {
                knight[sights] = whom;
                seat[sights] = onWhich;
                day[sights] = when;
                taken[sights] = wasTaken;
                sights++;
            }
        }

        /** Goes through all WORLDS; risk tells by SEATS in how many the guest, if no SQUIRE, is in peril today. */
        void survey(Told told, int today, int guest) {
            worlds = 0;
            where = 0;
            forWhom = 0;
            for (int i = 0; i < MOST_SEATS; i++) {
                risk[i] = 0;
            }
            for (int start = 0; start < told.seats; start++) {
                for (int step = 0; step < told.seats; step++) {
                    int peril = told.perilFrom(start, step, today);
                    for (int meant = NONE; meant < told.knights; meant++) {
                        if (peril != NONE && isWorld(told, start, step, meant)) {
                            worlds++;
                            where |= 1 << peril;
                            forWhom |= 1 << (meant == NONE ? FOR_NONE : meant);
                            risk[peril] += meant == guest ? 0 : 1;
                        }
                    }
                }
            }
        }

        private boolean isWorld(Told told, int start, int step, int meant) {
            for (int i = 0; i < sights; i++) {
                boolean takes = told.perilFrom(start, step, day[i]) == seat[i] && meant != knight[i];
                if (takes != taken[i]) {
                    return false;
                }
            }
            return true;
        }
    }

    /** Goes through the SEATINGS, KNIGHT by KNIGHT, lesser SEATS first; no deeper than there are KNIGHTS. */
    private static final class Search {
        int seats;
        int knights;
        int there;
        /** By KNIGHTS: the SEATS on which he would not be WRONG, by bits. */
        final int[] good = new int[MOST_KNIGHTS];
        final int[] enemies = new int[MOST_KNIGHTS];
        /** By KNIGHTS: the SEATS of the SEATING that is looked at, and of THE ROW. */
        final int[] place = new int[MOST_KNIGHTS];
        final int[] row = new int[MOST_KNIGHTS];
        private int knowers;
        private int mostThatCan;

        int ways() {
            return waysFrom(0, 0);
        }

        /** Whether there is a SEATING; the first is then in place. */
        boolean first() {
            return firstFrom(0, 0);
        }

        int fewestAway() {
            int fewest = fewestFrom(0, 0, 0, MOST_KNIGHTS + 1);
            return fewest > MOST_KNIGHTS ? NONE : fewest;
        }

        int mostKnow(int whoKnowAhead) {
            knowers = whoKnowAhead;
            // Each one is heard by one other at most, so the search can end when that many know.
            mostThatCan = Math.min(Integer.bitCount(there), 2 * Integer.bitCount(knowers));
            return mostFrom(0, 0, 0, NONE);
        }

        private int waysFrom(int knight, int used) {
            if (knight >= knights) {
                return 1;
            }
            if (!has(there, knight)) {
                return waysFrom(knight + 1, used);
            }
            int free = freeSeats(knight, used);
            if (knight == knights - 1) {
                return Integer.bitCount(free);
            }
            int ways = 0;
            for (int seat = 0; seat < seats; seat++) {
                if (has(free, seat)) {
                    place[knight] = seat;
                    ways += waysFrom(knight + 1, used | 1 << seat);
                }
            }
            return ways;
        }

        private boolean firstFrom(int knight, int used) {
            if (knight >= knights) {
                return true;
            }
            if (!has(there, knight)) {
                return firstFrom(knight + 1, used);
            }
            int free = freeSeats(knight, used);
            for (int seat = 0; seat < seats; seat++) {
                if (has(free, seat)) {
                    place[knight] = seat;
                    if (firstFrom(knight + 1, used | 1 << seat)) {
                        return true;
                    }
                }
            }
            return false;
        }

        /** The fewest of the SEATINGS that begin so, with so many away already; what was found ahead, if not fewer. */
        private int fewestFrom(int knight, int used, int away, int found) {
            if (away >= found) {
                return found;
            }
            if (knight >= knights) {
                return away;
            }
            if (!has(there, knight)) {
                return fewestFrom(knight + 1, used, away, found);
            }
            int free = freeSeats(knight, used);
            int fewest = found;
            for (int seat = 0; seat < seats; seat++) {
                if (has(free, seat)) {
                    place[knight] = seat;
                    int more = row[knight] == seat ? 0 : 1;
                    fewest = fewestFrom(knight + 1, used | 1 << seat, away + more, fewest);
                }
            }
            return fewest;
        }

        /** The most of the SEATINGS that begin so, with knowers on such SEATS; what was found ahead, if not more. */
        private int mostFrom(int knight, int used, int known, int found) {
            if (found >= mostThatCan) {
                return found;
            }
            if (knight >= knights) {
                return Math.max(found, knowAfterwards(used, known));
            }
            if (!has(there, knight)) {
                return mostFrom(knight + 1, used, known, found);
            }
            int free = freeSeats(knight, used);
            int most = found;
            for (int seat = 0; seat < seats; seat++) {
                if (has(free, seat)) {
                    place[knight] = seat;
                    int more = has(knowers, knight) ? 1 << seat : 0;
                    most = mostFrom(knight + 1, used | 1 << seat, known | more, most);
                }
            }
            return most;
        }

        /** Who sits ahead of a SEAT that knows comes to know. */
        private int knowAfterwards(int used, int known) {
            int hearing = known >> 1;
            if (has(known, 0)) {
                hearing |= 1 << (seats - 1);
            }
            return Integer.bitCount(used & (known | hearing));
        }

        /** The SEATS on which he can sit, those of lesser number being placed. */
        private int freeSeats(int knight, int used) {
            int free = good[knight] & ~used;
            for (int other = 0; other < knight; other++) {
                if (has(enemies[knight], other) && has(there, other)) {
                    free &= ~besides(place[other]);
                }
            }
            return free;
        }

        private int besides(int seat) {
            return 1 << behind(seat, seats) | 1 << ahead(seat, seats);
        }
    }
}

/**
 * Rows of skittles, told in a language: strokes by hand, by rules and by draws, and what a play of them
 * is worth. README.md says how to use it; ../shared/DOC.md says what each call answers.
 *
 * In names and comments "ahead" of a place is the one of the next number, "behind" it the one before;
 * a state is the standing skittles as bits (place 0: 1).
 */
public final class SkittleRow {
    public static final int NONE = -1;

    /** What is answered where there is no such thing, though it may be asked. */
    private static final int NOTHING = -2;

    private static final int TAPE_BYTES = 400;
    private static final int FEED_BYTES = 20;
    private static final int RULES_MOST = 6;
    private static final int IMAGES = 4;
    private static final int PLACES_MOST = 12;
    private static final int STATES = 1 << PLACES_MOST;
    private static final int ROWS_MOST = 4;
    private static final int HITS = 4;
    private static final int PLAIN_MOST = 40;
    private static final int STEPS_MOST = 20;
    private static final int NOTES_MOST = 40;
    private static final int UNDO_MOST = 20;
    private static final int GAMES_MOST = 50;
    private static final int WHOLE = 10000;
    private static final int PRIME = 1000000007;

    private static final int FAULT_SIGN = 0;
    private static final int FAULT_NUMBER = 1;
    private static final int FAULT_DEEP = 2;
    private static final int FAULT_MANY = 3;
    private static final int FAULT_CLAUSE = 4;

    private static final int BLANK = 32;
    private static final int NUMBER_DIGITS = 5;
    private static final int NUMBER_MOST = 99999;

    private static final String ALLEY_WORDS = "alley row ring hit ends last stray";
    private static final int CLAUSE_ALLEY = 0;
    private static final int CLAUSE_ROW = 1;
    private static final int CLAUSE_RING = 2;
    private static final int CLAUSE_HIT = 3;
    private static final int CLAUSE_ENDS = 4;
    private static final int CLAUSE_LAST = 5;
    private static final int CLAUSE_STRAY = 6;
    private static final int ALLEY_CLAUSES = 40;

    private static final String RULE_WORDS = "place many row standing left runs longest alone won turn strokes";
    private static final int WORD_PLACE = 0;
    private static final int WORD_MANY = 1;
    private static final int WORD_ROW = 2;
    private static final int WORD_STANDING = 3;
    private static final int WORD_LEFT = 4;
    private static final int WORD_RUNS = 5;
    private static final int WORD_LONGEST = 6;
    private static final int WORD_ALONE = 7;
    private static final int WORD_WON = 8;
    private static final int WORD_TURN = 9;
    private static final int WORD_STROKES = 10;
    private static final int RULE_CLAUSES = 12;
    private static final int RULE_DEPTH = 10;
    private static final int RULE_PARTS = 60;

    /** A rule's code: a number stands for itself, a word for this and its own number, the rest is below 0. */
    private static final int CODE_WORDS = 100000;
    private static final int CODE_ADD = -1;
    private static final int CODE_TAKE = -2;
    private static final int CODE_TIMES = -3;
    private static final int CODE_DIVIDE = -4;
    private static final int CODE_REST = -5;
    private static final int CODE_LESS = -6;
    private static final int CODE_AT_MOST = -7;
    private static final int CODE_SAME = -8;
    private static final int CODE_AT_LEAST = -9;
    private static final int CODE_MORE = -10;
    private static final int CODE_NOT = -11;
    private static final int CODE_AND = -12;
    private static final int CODE_OR = -13;

    /** Sets of laws, a bit for each: 4 * (hits - 1) + 2 for ends + 1 for last. */
    private static final long LAWS_ALL = 0x0FFFFFFFFFFFFFFFL;
    private static final long LAWS_WITHOUT_ENDS = 0x0333333333333333L;
    private static final long LAWS_WITH_LAST = 0x0AAAAAAAAAAAAAAAL;
    private static final long[] LAWS_THAT_HIT = {
        0L, 0x0F0F0F0F0F0F0F0FL, 0x0FF00FF00FF00FF0L, 0x0FFFF0000FFFF000L, 0x0FFFFFFFF0000000L
    };

    private final char[] tape = new char[TAPE_BYTES];
    private int tapeLength;
    private final Rule[] rules = new Rule[RULES_MOST];
    private int ruleCount;
    private final State now = new State();
    private final State[] images = new State[IMAGES];
    private final Acts acts = new Acts();
    private final Tables tables = new Tables();
    private final Bout bout = new Bout();

    public SkittleRow() {
    }

    public int feed(int a, int b, int c, int d, int e) {
        if (tapeLength + FEED_BYTES > TAPE_BYTES) {
            return NONE;
        }
        putBytes(a);
        putBytes(b);
        putBytes(c);
        putBytes(d);
        putBytes(e);
        return tapeLength;
    }

    private void putBytes(int number) {
        for (int shift = 24; shift >= 0 && tapeLength < TAPE_BYTES; shift -= 8) {
            tape[tapeLength] = (char) (number >>> shift & 255);
            tapeLength++;
        }
    }

    public int end(int n) {
        if (n < 0 || n > tapeLength) {
            return NONE;
        }
        tapeLength = n;
        return n;
    }

    public int alley() {
        Reader text = new Reader(tape, tapeLength);
        Alley told = new AlleyReader(text).read();
        tapeLength = 0;
        if (!text.sound()) {
            return -2 - text.fault;
        }
        now.begin(told);
        acts.forget();
        tables.use(told);
        return told.places;
    }

    public int rule() {
        if (ruleCount >= RULES_MOST) {
            return NONE;
        }
        Reader text = new Reader(tape, tapeLength);
        Rule told = new RuleReader(text).read();
        tapeLength = 0;
        if (!text.sound()) {
            return -2 - text.fault;
        }
        rules[ruleCount] = told;
        ruleCount++;
        return ruleCount - 1;
    }

    public int place(int place, int what) {
        Alley alley = now.alley;
        if (alley == null || place < 0 || place >= alley.places) {
            return NONE;
        }
        switch (what) {
            case 0: return now.standing >> place & 1;
            case 1: return alley.rowOf[place];
            case 2: return alley.behind[place];
            case 3: return alley.ahead[place];
            default: return NONE;
        }
    }

    public int can(int place, int many) {
        if (now.alley == null) {
            return NONE;
        }
        Stroke stroke = now.alley.strokeOf(now.standing, place, many);
        if (stroke == null) {
            return 0;
        }
        return tables.winsBy(now.standing, stroke) ? 2 : 1;
    }

    public int stroke(int place, int many) {
        if (now.alley == null) {
            return NONE;
        }
        Stroke stroke = now.alley.strokeOf(now.standing, place, many);
        if (stroke == null) {
            return NONE;
        }
        acts.keep(now);
        now.play(stroke);
        return Integer.bitCount(now.standing);
    }

    public int up(int place) {
        if (now.alley == null || place < 0 || place >= now.alley.places || (now.standing >> place & 1) == 1) {
            return NONE;
        }
        acts.keep(now);
        now.standing |= 1 << place;
        return Integer.bitCount(now.standing);
    }

    public int pass() {
        if (now.alley == null) {
            return NONE;
        }
        acts.keep(now);
        now.turn = 1 - now.turn;
        return now.turn;
    }

    public int undo() {
        return acts.takeBack(now);
    }

    public int won() {
        if (now.alley == null) {
            return NONE;
        }
        return tables.canWin(now.standing) ? 1 : 0;
    }

    public int wins(int what) {
        if (now.alley == null || what < 0 || what > 2) {
            return NONE;
        }
        int many = 0;
        Stroke first = null;
        for (Stroke stroke : now.alley.strokes) {
            if (now.alley.allows(now.standing, stroke) && tables.winsBy(now.standing, stroke)) {
                first = first == null ? stroke : first;
                many++;
            }
        }
        if (what == 0) {
            return many;
        }
        if (first == null) {
            return NOTHING;
        }
        return what == 1 ? first.place : first.many;
    }

    public int worth(int row) {
        if (now.alley == null || row < 0 || row >= now.alley.rows) {
            return NONE;
        }
        return now.alley.rowWorth(now.standing, row);
    }

    public int plain(int n) {
        if (now.alley == null || n < 0 || n > PLAIN_MOST) {
            return NONE;
        }
        return now.alley.plainWorths[n];
    }

    public int again(int what) {
        if (now.alley == null || what < 0 || what > 1) {
            return NONE;
        }
        for (int steps = 1; steps <= STEPS_MOST; steps++) {
            int from = now.alley.sameFrom(steps);
            if (from != NONE) {
                return what == 0 ? steps : from;
            }
        }
        return NOTHING;
    }

    public int lasts() {
        return now.alley == null ? NONE : tables.lengthAt(now.standing);
    }

    public int plays() {
        return now.alley == null ? NONE : tables.playsAt(now.standing);
    }

    public int fair(int what) {
        if (now.alley == null || what < 0 || what > 1) {
            return NONE;
        }
        int set = fairSet();
        if (set == NONE) {
            return NOTHING;
        }
        return what == 0 ? Integer.bitCount(set) : set;
    }

    private int fairSet() {
        boolean before = tables.canWin(now.standing);
        int best = NONE;
        for (int set = 1; set <= now.standing; set++) {
            boolean stands = (set & ~now.standing) == 0;
            if (stands && tables.canWin(now.standing & ~set) != before
                    && (best == NONE || Integer.bitCount(set) < Integer.bitCount(best))) {
                best = set;
            }
        }
        return best;
    }

    public int chance() {
        return now.alley == null ? NONE : tables.chanceAt(now.standing);
    }

    public int child() {
        return now.alley == null ? NONE : tables.childAt(now.standing);
    }

    public int match(int rule, int other, int what) {
        if (now.alley == null || !isRule(rule) || !isRule(other) || what < 0 || what > 1) {
            return NONE;
        }
        bout.playTimes(now, tables, rules[rule], rules[other], 1);
        if (what == 1) {
            return bout.strokes;
        }
        return bout.wonByZero == 1 ? 0 : 1;
    }

    private boolean isRule(int number) {
        return number >= 0 && number < ruleCount;
    }

    public int knew(int player, int what) {
        if (now.alley == null || player < 0 || player > 1 || what < 0 || what > 3) {
            return NONE;
        }
        int many = 0;
        int could = 0;
        int did = 0;
        int from = 0;
        for (int i = 0; i < now.noted(); i++) {
            Stroke stroke = now.strokeNoted(i, player);
            if (stroke == null) {
                continue;
            }
            many++;
            if (tables.canWin(now.noteStanding[i])) {
                could++;
                boolean kept = tables.winsBy(now.noteStanding[i], stroke);
                did += kept ? 1 : 0;
                from = kept ? from : many;
            }
        }
        switch (what) {
            case 0: return many;
            case 1: return could;
            case 2: return did;
            default: return from;
        }
    }

    public int law(int player, int what) {
        if (now.alley == null || player < 0 || player > 1 || what < 0 || what > 3) {
            return NONE;
        }
        long laws = LAWS_ALL;
        for (int i = 0; i < now.noted(); i++) {
            Stroke stroke = now.strokeNoted(i, player);
            if (stroke != null) {
                laws &= tables.lawsBehind(now.noteStanding[i], stroke);
            }
        }
        if (what == 0) {
            return Long.bitCount(laws);
        }
        if (laws == 0) {
            return NOTHING;
        }
        int first = Long.numberOfTrailingZeros(laws);
        switch (what) {
            case 1: return first / 4 + 1;
            case 2: return first / 2 % 2;
            default: return first % 2;
        }
    }

    public int seed(int x) {
        if (x < 0) {
            return NONE;
        }
        int before = now.x;
        now.x = x;
        return before;
    }

    public int games(int m, int what) {
        if (now.alley == null || m < 1 || m > GAMES_MOST || what < 0 || what > 1) {
            return NONE;
        }
        bout.playTimes(now, tables, null, null, m);
        return what == 0 ? bout.wonByZero : bout.strokes;
    }

    public int against(int rule, int m, int what) {
        if (now.alley == null || !isRule(rule) || m < 1 || m > GAMES_MOST || what < 0 || what > 1) {
            return NONE;
        }
        bout.playTimes(now, tables, rules[rule], null, m);
        return what == 0 ? bout.wonByZero : bout.strokes;
    }

    public int count(int what) {
        if (what >= 0 && what <= 5) {
            return now.alley == null ? 0 : now.alley.number(what);
        }
        switch (what) {
            case 6: return ruleCount;
            case 7: return now.turn;
            case 8: return now.standing;
            case 9: return now.played;
            case 10: return acts.kept;
            case 11: return now.x;
            case 12: return tapeLength;
            default: return NONE;
        }
    }

    public int image(int k) {
        if (k < 0 || k >= IMAGES) {
            return NONE;
        }
        if (images[k] == null) {
            images[k] = new State();
        }
        images[k].copyOf(now);
        return now.played;
    }

    public int back(int k) {
        if (k < 0 || k >= IMAGES || images[k] == null) {
            return NONE;
        }
        now.copyOf(images[k]);
        acts.forget();
        tables.use(now.alley);
        return now.played;
    }

    /** All that an image holds. */
    static final class State {
        /** Null as long as none was told. */
        Alley alley;
        int standing;
        int turn;
        int played;
        int x;
        final int[] notePlayer = new int[NOTES_MOST];
        final int[] noteStanding = new int[NOTES_MOST];
        final Stroke[] noteStroke = new Stroke[NOTES_MOST];

        void begin(Alley told) {
            alley = told;
            standing = told.standing;
            turn = told.first;
            played = 0;
        }

        /** Strokes are noted from the first on and undone from the last on, so that no counter of its own is needed. */
        int noted() {
            return Math.min(played, NOTES_MOST);
        }

        /** Null if the stroke of this number is not noted, or another one's. */
        Stroke strokeNoted(int number, int player) {
            if (number < 0 || number >= noted() || notePlayer[number] != player) {
                return null;
            }
            return noteStroke[number];
        }

        void play(Stroke stroke) {
            if (played < NOTES_MOST) {
                notePlayer[played] = turn;
                noteStanding[played] = standing;
                noteStroke[played] = stroke;
            }
            standing &= ~stroke.mask;
            turn = 1 - turn;
            played++;
        }

        void copyOf(State other) {
            alley = other.alley;
            standing = other.standing;
            turn = other.turn;
            played = other.played;
            x = other.x;
            for (int i = 0; i < NOTES_MOST; i++) {
                notePlayer[i] = other.notePlayer[i];
                noteStanding[i] = other.noteStanding[i];
                noteStroke[i] = other.noteStroke[i];
            }
        }
    }

    /** How it was ahead of each of the last acts, in a ring of which the oldest one is overwritten. */
    static final class Acts {
        private final int[] standing = new int[UNDO_MOST];
        private final int[] turn = new int[UNDO_MOST];
        private final int[] played = new int[UNDO_MOST];
        private int next;
        int kept;

        void forget() {
            kept = 0;
        }

        void keep(State now) {
            standing[next] = now.standing;
            turn[next] = now.turn;
            played[next] = now.played;
            next = (next + 1) % UNDO_MOST;
            kept = Math.min(kept + 1, UNDO_MOST);
        }

        /** How many more can be taken back; NONE if none was there. */
        int takeBack(State now) {
            if (kept == 0) {
                return NONE;
            }
            next = (next + UNDO_MOST - 1) % UNDO_MOST;
            kept--;
            now.standing = standing[next];
            now.turn = turn[next];
            now.played = played[next];
            return kept;
        }
    }

    /** A stroke as the rows allow it, whether all of it stands or not. */
    static final class Stroke {
        final int place;
        final int many;
        final int row;
        final int mask;
        /** The bits of the places beside it on either side; 0 if there is none, or it is of its own. */
        final int behind;
        final int ahead;
        /** The laws that hit so many, with ends or without. */
        final long laws;

        Stroke(int place, int many, int row, int mask, int behind, int ahead) {
            this.place = place;
            this.many = many;
            this.row = row;
            this.mask = mask;
            this.behind = behind & ~mask;
            this.ahead = ahead & ~mask;
            this.laws = many > 0 && many < LAWS_THAT_HIT.length ? LAWS_THAT_HIT[many] : 0;
        }

        boolean hasEndIn(int state) {
            return (state & behind) == 0 || (state & ahead) == 0;
        }
    }

    /** An alley as it was told; once settled it does not change, so that images can share it. */
    static final class Alley {
        int first;
        int standing;
        int places;
        int rows;
        int hits;
        boolean ends;
        boolean last;
        int stray;
        final int[] rowOf = new int[PLACES_MOST];
        final int[] rowFirst = new int[ROWS_MOST];
        final int[] rowSize = new int[ROWS_MOST];
        final boolean[] ring = new boolean[ROWS_MOST];
        final int[] behind = new int[PLACES_MOST];
        final int[] ahead = new int[PLACES_MOST];
        /** By places, then by many, those of so many as may be knocked down here. */
        Stroke[] strokes = new Stroke[0];
        /** Likewise, but of 1 to 4, since other laws may have them. */
        Stroke[] strokesOfAnyLaw = new Stroke[0];
        final int[] plainWorths = new int[PLAIN_MOST + 1];

        void addPlace(boolean stands) {
            int row = rows - 1;
            if (places >= PLACES_MOST || row < 0 || row >= ROWS_MOST) {
                return;
            }
            rowOf[places] = row;
            rowSize[row]++;
            standing |= stands ? 1 << places : 0;
            places++;
        }

        /** What follows from the text when all of it is read. */
        void settle() {
            if (hits == 0) {
                hits = 3;
            }
            for (int place = 0; place < places; place++) {
                int row = rowOf[place];
                int end = rowFirst[row] + rowSize[row] - 1;
                behind[place] = place > rowFirst[row] ? place - 1 : ring[row] ? end : NONE;
                ahead[place] = place < end ? place + 1 : ring[row] ? rowFirst[row] : NONE;
            }
            listStrokes();
            for (int n = 0; n <= PLAIN_MOST; n++) {
                plainWorths[n] = leastLeftOut(plainLeavings(n));
            }
        }

        private void listStrokes() {
            Stroke[] list = new Stroke[places * HITS];
            int size = 0;
            for (int place = 0; place < places; place++) {
                int mask = 0;
                int at = place;
                for (int many = 1; many <= HITS && at != NONE && (mask >> at & 1) == 0; many++) {
                    mask |= 1 << at;
                    list[size] = new Stroke(place, many, rowOf[place], mask, bitOf(behind[place]), bitOf(ahead[at]));
                    size++;
                    at = ahead[at];
                }
            }
            strokesOfAnyLaw = chosen(list, size, 15);
            strokes = chosen(list, size, hits);
        }

        /** Of the first ones of a list those of so many as a set of hits has. */
        private static Stroke[] chosen(Stroke[] list, int size, int of) {
            int many = 0;
            for (int i = 0; i < size; i++) {
                many += hasHit(of, list[i].many) ? 1 : 0;
            }
            Stroke[] own = new Stroke[many];
            int next = 0;
            for (int i = 0; i < size; i++) {
                if (hasHit(of, list[i].many)) {
                    own[next] = list[i];
                    next++;
                }
            }
            return own;
        }

        private static boolean hasHit(int hits, int many) {
            return (hits >> (many - 1) & 1) == 1;
        }

        private static int bitOf(int place) {
            return place == NONE ? 0 : 1 << place;
        }

        /** Whether one of the strokes listed for this alley can be. */
        boolean allows(int state, Stroke stroke) {
            return (state & stroke.mask) == stroke.mask && (!ends || stroke.hasEndIn(state));
        }

        /** Null if it can't be. */
        Stroke strokeOf(int state, int place, int many) {
            for (Stroke stroke : strokes) {
                if (stroke.place == place && stroke.many == many) {
                    return allows(state, stroke) ? stroke : null;
                }
            }
            return null;
        }

        /** The worths that strokes in a plain row leave, as bits: of up to 40 skittles none is above 17. */
        private long plainLeavings(int n) {
            long left = 0;
            for (int many = 1; many <= HITS && many <= n; many++) {
                int rest = n - many;
                for (int before = 0; before <= rest && hasHit(hits, many); before++) {
                    if (!ends || before == 0 || before == rest) {
                        left |= 1L << (plainWorths[before] ^ plainWorths[rest - before]);
                    }
                }
            }
            return left;
        }

        private static int leastLeftOut(long numbers) {
            return Long.numberOfTrailingZeros(~numbers);
        }

        boolean isWholeRing(int state, int row) {
            int mask = (1 << rowSize[row]) - 1 << rowFirst[row];
            return ring[row] && (state & mask) == mask;
        }

        /** How long the run is that begins at a place, 0 if none does; that of a whole ring begins at its first. */
        int runFrom(int state, int place) {
            int row = rowOf[place];
            if (isWholeRing(state, row)) {
                return place == rowFirst[row] ? rowSize[row] : 0;
            }
            if (behind[place] != NONE && (state >> behind[place] & 1) == 1) {
                return 0;
            }
            int length = 0;
            int at = place;
            while (length < places && at != NONE && (state >> at & 1) == 1) {
                length++;
                at = ahead[at];
            }
            return length;
        }

        /** Runs do not touch one another, so that their worths join as those of heaps do. */
        int rowWorth(int state, int row) {
            if (isWholeRing(state, row)) {
                return leastLeftOut(ringLeavings(rowSize[row]));
            }
            int worth = 0;
            for (int i = 0; i < rowSize[row]; i++) {
                worth ^= plainWorths[runFrom(state, rowFirst[row] + i)];
            }
            return worth;
        }

        private long ringLeavings(int size) {
            long left = 0;
            for (int many = 1; many <= HITS && many <= size; many++) {
                if (hasHit(hits, many) && (!ends || many == size)) {
                    left |= 1L << plainWorths[size - many];
                }
            }
            return left;
        }

        /** From which length on plain rows are worth as much as those so many steps longer; NONE if too late. */
        int sameFrom(int steps) {
            int from = PLAIN_MOST + 1 - steps;
            while (from > 0 && plainWorths[from - 1] == plainWorths[from - 1 + steps]) {
                from--;
            }
            return from + 2 * steps <= PLAIN_MOST ? from : NONE;
        }

        int number(int what) {
            switch (what) {
                case 0: return places;
                case 1: return rows;
                case 2: return hits;
                case 3: return ends ? 1 : 0;
                case 4: return last ? 1 : 0;
                default: return stray;
            }
        }
    }

    /** Reads a text from its first byte on; of its faults the first that is found stays. */
    static final class Reader {
        private final char[] text;
        private final int length;
        int at;
        int fault = NONE;

        Reader(char[] text, int length) {
            this.text = text;
            this.length = Math.min(length, text.length);
        }

        boolean sound() {
            return fault == NONE;
        }

        void refuse(int place, int kind) {
            if (fault == NONE) {
                fault = 1 + 8 * place + kind;
            }
        }

        /** The byte at the reader's place; NONE behind the last one. */
        int look() {
            return at < length ? text[at] : NONE;
        }

        /** The next byte that is no blank. */
        int next() {
            while (at < length && text[at] == BLANK) {
                at++;
            }
            return at < length ? text[at] : NONE;
        }

        boolean takes(int sign) {
            if (!sound() || next() != sign) {
                return false;
            }
            at++;
            return true;
        }

        /** Which of some words, with blanks between, comes next; NONE if it is none of them. */
        int wordOf(String words) {
            next();
            int number = 0;
            int start = 0;
            for (int i = 0; i <= words.length(); i++) {
                if (i == words.length() || words.charAt(i) == BLANK) {
                    if (isWord(words, start, i)) {
                        return number;
                    }
                    number++;
                    start = i + 1;
                }
            }
            return NONE;
        }

        private boolean isWord(String words, int start, int stop) {
            int many = stop - start;
            if (at + many > length) {
                return false;
            }
            for (int i = 0; i < many; i++) {
                if (text[at + i] != words.charAt(start + i)) {
                    return false;
                }
            }
            return at + many == length || text[at + many] < 'a' || text[at + many] > 'z';
        }

        void skipWord() {
            while (at < length && text[at] >= 'a' && text[at] <= 'z') {
                at++;
            }
        }

        boolean takesWord(String word) {
            if (!sound() || wordOf(word) == NONE) {
                return false;
            }
            skipWord();
            return true;
        }

        static boolean isDigit(int sign) {
            return sign >= '0' && sign <= '9';
        }

        /** A number from least to most; what is answered behind a fault is free. */
        int number(int least, int most) {
            if (!isDigit(next())) {
                refuse(at, FAULT_SIGN);
                return 0;
            }
            int start = at;
            int value = 0;
            while (at < length && isDigit(text[at])) {
                value = at - start < NUMBER_DIGITS ? value * 10 + text[at] - '0' : value;
                at++;
            }
            if (at - start > NUMBER_DIGITS || value < least || value > most) {
                refuse(start, FAULT_NUMBER);
            }
            return value;
        }

        /** Whether another clause follows the one just read; at what is neither end nor ; it is a fault. */
        boolean goesOn() {
            if (!sound() || next() == NONE) {
                return false;
            }
            if (takes(';')) {
                return true;
            }
            refuse(at, FAULT_SIGN);
            return false;
        }
    }

    static final class AlleyReader {
        private final Reader text;
        private final Alley told = new Alley();

        AlleyReader(Reader text) {
            this.text = text;
        }

        Alley read() {
            int clauses = 0;
            do {
                readClause(clauses);
                clauses++;
            } while (clauses <= ALLEY_CLAUSES && text.goesOn());
            if (text.sound()) {
                told.settle();
            }
            return told;
        }

        private void readClause(int number) {
            int word = text.wordOf(ALLEY_WORDS);
            if (word == NONE) {
                text.refuse(text.at, FAULT_SIGN);
                return;
            }
            if (number >= ALLEY_CLAUSES || isTooMany(word, number)) {
                text.refuse(text.at, FAULT_CLAUSE);
                return;
            }
            text.skipWord();
            switch (word) {
                case CLAUSE_ALLEY:
                    told.first = text.number(0, 1);
                    break;
                case CLAUSE_ROW:
                    readRow();
                    break;
                case CLAUSE_RING:
                    readRing();
                    break;
                case CLAUSE_HIT:
                    readHit();
                    break;
                case CLAUSE_ENDS:
                    told.ends = true;
                    break;
                case CLAUSE_LAST:
                    told.last = true;
                    break;
                default:
                    told.stray = text.number(0, 100);
                    break;
            }
        }

        private boolean isTooMany(int word, int number) {
            switch (word) {
                case CLAUSE_ALLEY: return number > 0;
                case CLAUSE_ROW: return number == 0 || told.rows >= ROWS_MOST;
                case CLAUSE_ENDS: return number == 0 || told.ends;
                case CLAUSE_LAST: return number == 0 || told.last;
                default: return number == 0;
            }
        }

        private void readRow() {
            if (!isPlace(text.next())) {
                text.refuse(text.at, FAULT_SIGN);
                return;
            }
            if (told.rows < ROWS_MOST) {
                told.rowFirst[told.rows] = told.places;
                told.rows++;
            }
            for (int i = 0; i < TAPE_BYTES && text.sound() && isPlace(text.look()); i++) {
                if (told.places >= PLACES_MOST) {
                    text.refuse(text.at, FAULT_MANY);
                }
                told.addPlace(text.look() == '1');
                text.at++;
            }
        }

        private static boolean isPlace(int sign) {
            return sign == '0' || sign == '1';
        }

        private void readRing() {
            text.next();
            int start = text.at;
            int row = text.number(0, told.rows - 1);
            if (!text.sound()) {
                return;
            }
            if (row < ROWS_MOST && told.rowSize[row] >= 3) {
                told.ring[row] = true;
            } else {
                text.refuse(start, FAULT_NUMBER);
            }
        }

        private void readHit() {
            int many = text.number(1, HITS);
            if (text.sound()) {
                told.hits |= 1 << (many - 1);
            }
        }
    }

    /** Turns a rule's text into code in which what is joined stands ahead of the sign that joins it. */
    static final class RuleReader {
        private final Reader text;
        private final int[] code = new int[TAPE_BYTES];
        private int size;
        private int parts;

        RuleReader(Reader text) {
            this.text = text;
        }

        Rule read() {
            Rule told = new Rule();
            int clauses = 0;
            do {
                readClause(clauses, told);
                clauses++;
            } while (clauses <= RULE_CLAUSES && text.goesOn());
            if (text.sound()) {
                told.settle(code, size);
            }
            return told;
        }

        private void readClause(int number, Rule told) {
            if (text.wordOf("stroke") == NONE) {
                text.refuse(text.at, FAULT_SIGN);
                return;
            }
            if (number >= RULE_CLAUSES) {
                text.refuse(text.at, FAULT_CLAUSE);
                return;
            }
            text.skipWord();
            int start = size;
            readSum();
            int test = size;
            if (text.takesWord("if")) {
                readTest(0);
            }
            told.addClause(start, test, size);
        }

        private void readTest(int depth) {
            readPart(depth);
            for (int i = 0; i < TAPE_BYTES && text.takesWord("or"); i++) {
                readPart(depth);
                put(CODE_OR);
            }
        }

        private void readPart(int depth) {
            readFact(depth);
            for (int i = 0; i < TAPE_BYTES && text.takesWord("and"); i++) {
                readFact(depth);
                put(CODE_AND);
            }
        }

        private void readFact(int depth) {
            boolean opens = text.next() == '[';
            boolean isNot = text.wordOf("not") != NONE;
            if (!text.sound()) {
                return;
            }
            if (!opens && !isNot) {
                readSum();
                int sign = readSign();
                readSum();
                put(sign);
            } else if (depth >= RULE_DEPTH) {
                text.refuse(text.at, FAULT_DEEP);
            } else if (isNot) {
                text.skipWord();
                readFact(depth + 1);
                put(CODE_NOT);
            } else {
                text.at++;
                readTest(depth + 1);
                if (!text.takes(']')) {
                    text.refuse(text.at, FAULT_SIGN);
                }
            }
        }

        private int readSign() {
            int first = text.next();
            int start = text.at;
            if (first != '<' && first != '=' && first != '>') {
                text.refuse(start, FAULT_SIGN);
                return 0;
            }
            countPart(start);
            text.at++;
            if (first == '=') {
                return CODE_SAME;
            }
            boolean also = text.look() == '=';
            text.at += also ? 1 : 0;
            if (first == '<') {
                return also ? CODE_AT_MOST : CODE_LESS;
            }
            return also ? CODE_AT_LEAST : CODE_MORE;
        }

        /** A + or - waits till the term behind it has ended; the other signs join at once. */
        private void readSum() {
            int waiting = 0;
            readValue();
            for (int i = 0; i < TAPE_BYTES && text.sound(); i++) {
                int sign = codeOf(text.next());
                if (sign == 0) {
                    break;
                }
                text.at++;
                if (sign != CODE_ADD && sign != CODE_TAKE) {
                    readValue();
                    put(sign);
                    continue;
                }
                if (waiting != 0) {
                    put(waiting);
                }
                waiting = sign;
                readValue();
            }
            if (waiting != 0) {
                put(waiting);
            }
        }

        private static int codeOf(int sign) {
            switch (sign) {
                case '+': return CODE_ADD;
                case '-': return CODE_TAKE;
                case '*': return CODE_TIMES;
                case '/': return CODE_DIVIDE;
                case '%': return CODE_REST;
                default: return 0;
            }
        }

        private void readValue() {
            int sign = text.next();
            int start = text.at;
            if (!text.sound()) {
                return;
            }
            int value;
            if (Reader.isDigit(sign)) {
                value = text.number(0, NUMBER_MOST);
            } else {
                int word = text.wordOf(RULE_WORDS);
                if (word == NONE) {
                    text.refuse(start, FAULT_SIGN);
                    return;
                }
                text.skipWord();
                value = CODE_WORDS + word;
            }
            countPart(start);
            put(value);
        }

        private void countPart(int place) {
            parts++;
            if (parts > RULE_PARTS) {
                text.refuse(place, FAULT_MANY);
            }
        }

        /** Each thing put has a byte of its own in the text, so that the room is enough for a text without fault. */
        private void put(int thing) {
            if (text.sound() && size < code.length) {
                code[size] = thing;
                size++;
            }
        }
    }

    static final class Rule {
        private int[] code = new int[0];
        private int clauses;
        private final int[] sumFrom = new int[RULE_CLAUSES];
        private final int[] testFrom = new int[RULE_CLAUSES];
        private final int[] testTo = new int[RULE_CLAUSES];
        private final long[] stack = new long[RULE_PARTS + 4];
        /** The words that it asks for, as bits, so that no others need be looked up. */
        int words;

        void addClause(int sum, int test, int end) {
            if (clauses < RULE_CLAUSES) {
                sumFrom[clauses] = sum;
                testFrom[clauses] = test;
                testTo[clauses] = end;
                clauses++;
            }
        }

        void settle(int[] all, int size) {
            int length = Math.max(0, Math.min(size, all.length));
            code = new int[length];
            for (int i = 0; i < length; i++) {
                code[i] = all[i];
                words |= all[i] >= CODE_WORDS ? 1 << (all[i] - CODE_WORDS) : 0;
            }
        }

        long valueOf(Look look) {
            for (int i = 0; i < clauses; i++) {
                boolean holds = testFrom[i] == testTo[i] || reckon(testFrom[i], testTo[i], look) != 0;
                if (holds) {
                    return reckon(sumFrom[i], testFrom[i], look);
                }
            }
            return 0;
        }

        private long reckon(int from, int to, Look look) {
            int top = 0;
            for (int i = from; i < to && i < code.length; i++) {
                int thing = code[i];
                if (thing >= 0 && top < stack.length) {
                    stack[top] = thing < CODE_WORDS ? thing : look.word(thing - CODE_WORDS);
                    top++;
                } else if (thing == CODE_NOT && top >= 1) {
                    stack[top - 1] = 1 - stack[top - 1];
                } else if (top >= 2) {
                    top--;
                    stack[top - 1] = join(thing, stack[top - 1], stack[top]);
                }
            }
            return stack[0];
        }

        private static long join(int sign, long a, long b) {
            switch (sign) {
                case CODE_ADD: return a + b;
                case CODE_TAKE: return a - b;
                case CODE_TIMES: return a * b;
                case CODE_DIVIDE: return b == 0 ? 0 : a / b;
                case CODE_REST: return b == 0 ? 0 : a % b;
                case CODE_LESS: return a < b ? 1 : 0;
                case CODE_AT_MOST: return a <= b ? 1 : 0;
                case CODE_SAME: return a == b ? 1 : 0;
                case CODE_AT_LEAST: return a >= b ? 1 : 0;
                case CODE_MORE: return a > b ? 1 : 0;
                case CODE_AND: return a & b;
                default: return a | b;
            }
        }
    }

    /** What a rule's words stand for when it looks at a stroke. */
    static final class Look {
        private final long[] values = new long[WORD_STROKES + 1];

        long word(int number) {
            return number >= 0 && number < values.length ? values[number] : 0;
        }

        void lookAt(Bout bout, Stroke stroke, int words) {
            int left = bout.standing & ~stroke.mask;
            values[WORD_PLACE] = stroke.place;
            values[WORD_MANY] = stroke.many;
            values[WORD_ROW] = stroke.row;
            values[WORD_STANDING] = Integer.bitCount(bout.standing);
            values[WORD_LEFT] = Integer.bitCount(left);
            values[WORD_TURN] = bout.turn;
            values[WORD_STROKES] = bout.played;
            if ((words >> WORD_WON & 1) == 1) {
                values[WORD_WON] = bout.tables.canWin(left) ? 0 : 1;
            }
            if ((words & (1 << WORD_RUNS | 1 << WORD_LONGEST | 1 << WORD_ALONE)) != 0) {
                countRuns(bout.alley, left);
            }
        }

        private void countRuns(Alley alley, int state) {
            int runs = 0;
            int longest = 0;
            int alone = 0;
            for (int place = 0; place < alley.places; place++) {
                int length = alley.runFrom(state, place);
                runs += length > 0 ? 1 : 0;
                alone += length == 1 ? 1 : 0;
                longest = Math.max(longest, length);
            }
            values[WORD_RUNS] = runs;
            values[WORD_LONGEST] = longest;
            values[WORD_ALONE] = alone;
        }
    }

    /** Plays that leave no trace: each player goes by a rule, or by draws without one. */
    static final class Bout {
        private final Look look = new Look();
        Tables tables;
        Alley alley;
        int standing;
        int turn;
        int played;
        private long x;
        int wonByZero;
        int strokes;

        void playTimes(State from, Tables known, Rule ofZero, Rule ofOne, int times) {
            wonByZero = 0;
            strokes = 0;
            tables = known;
            alley = from.alley;
            x = from.x;
            for (int i = 0; i < times && alley != null; i++) {
                standing = from.standing;
                turn = from.turn;
                played = from.played;
                playOut(ofZero, ofOne);
                wonByZero += alley.last == (turn == 0) ? 1 : 0;
            }
        }

        /** Each stroke takes a skittle at least, so that there are no more strokes than places. */
        private void playOut(Rule ofZero, Rule ofOne) {
            for (int i = 0; i < PLACES_MOST; i++) {
                Rule rule = turn == 0 ? ofZero : ofOne;
                Stroke stroke = rule == null ? drawn() : bestBy(rule);
                if (stroke == null) {
                    return;
                }
                standing &= ~stroke.mask;
                turn = 1 - turn;
                played++;
                strokes++;
            }
        }

        private Stroke bestBy(Rule rule) {
            Stroke best = null;
            long most = 0;
            for (Stroke stroke : alley.strokes) {
                if (alley.allows(standing, stroke)) {
                    look.lookAt(this, stroke, rule.words);
                    long value = rule.valueOf(look);
                    if (best == null || value > most) {
                        best = stroke;
                        most = value;
                    }
                }
            }
            return best;
        }

        private Stroke drawn() {
            int many = 0;
            for (Stroke stroke : alley.strokes) {
                many += alley.allows(standing, stroke) ? 1 : 0;
            }
            if (many == 0) {
                return null;
            }
            x = x * 1103515245L + 12345L & 2147483647L;
            long toSkip = x / 65536 % many;
            for (Stroke stroke : alley.strokes) {
                if (alley.allows(standing, stroke)) {
                    if (toSkip == 0) {
                        return stroke;
                    }
                    toSkip--;
                }
            }
            return null;
        }
    }

    /**
     * What each state of an alley comes to, reckoned when first asked. A stroke leaves a state of a smaller
     * number, so that each table is filled upwards.
     */
    static final class Tables {
        /** That of the last one asked for; an empty one at first, so that it is never null. */
        private Alley alley = new Alley();
        private int ownLaw;
        private int states;
        /** For each state the laws by which who is to play can win. */
        private final long[] winning = new long[STATES];
        private final int[] lengths = new int[STATES];
        private final int[] playCounts = new int[STATES];
        private final int[] chances = new int[STATES];
        /** What who plays well has against a child: if they are to play, and if the child is. */
        private final int[] clever = new int[STATES];
        private final int[] childish = new int[STATES];
        private boolean hasWinning;
        private boolean hasLengths;
        private boolean hasPlayCounts;
        private boolean hasChances;
        private boolean hasClever;

        /** What was reckoned stays as long as no other alley is asked for; without one nothing will be. */
        void use(Alley asked) {
            if (asked == null || asked == alley) {
                return;
            }
            alley = asked;
            states = 1 << asked.places;
            ownLaw = 4 * (asked.hits - 1) + (asked.ends ? 2 : 0) + (asked.last ? 1 : 0);
            hasWinning = false;
            hasLengths = false;
            hasPlayCounts = false;
            hasChances = false;
            hasClever = false;
        }

        private void fillWinning() {
            for (int state = 0; state < states; state++) {
                long can = 0;
                long wins = 0;
                for (Stroke stroke : alley.strokesOfAnyLaw) {
                    if ((state & stroke.mask) == stroke.mask) {
                        long laws = stroke.hasEndIn(state) ? stroke.laws : stroke.laws & LAWS_WITHOUT_ENDS;
                        can |= laws;
                        wins |= laws & ~winning[state & ~stroke.mask];
                    }
                }
                winning[state] = wins | LAWS_WITH_LAST & ~can;
            }
            hasWinning = true;
        }

        boolean canWin(int state) {
            if (!hasWinning) {
                fillWinning();
            }
            return (winning[state] >> ownLaw & 1) == 1;
        }

        boolean winsBy(int state, Stroke stroke) {
            return !canWin(state & ~stroke.mask);
        }

        /** The laws by which a stroke may be, and wins if any does. */
        long lawsBehind(int state, Stroke stroke) {
            if (!hasWinning) {
                fillWinning();
            }
            long laws = stroke.hasEndIn(state) ? stroke.laws : stroke.laws & LAWS_WITHOUT_ENDS;
            return laws & ~(winning[state] & winning[state & ~stroke.mask]);
        }

        private void fillLengths() {
            for (int state = 0; state < states; state++) {
                boolean hastens = canWin(state);
                int best = NONE;
                for (Stroke stroke : alley.strokes) {
                    if (alley.allows(state, stroke) && (!hastens || winsBy(state, stroke))) {
                        int length = lengths[state & ~stroke.mask] + 1;
                        boolean better = hastens ? length < best : length > best;
                        best = best == NONE || better ? length : best;
                    }
                }
                lengths[state] = Math.max(best, 0);
            }
            hasLengths = true;
        }

        int lengthAt(int state) {
            if (!hasLengths) {
                fillLengths();
            }
            return lengths[state];
        }

        private void fillPlayCounts() {
            for (int state = 0; state < states; state++) {
                boolean over = true;
                long sum = 0;
                for (Stroke stroke : alley.strokes) {
                    if (alley.allows(state, stroke)) {
                        over = false;
                        sum += playCounts[state & ~stroke.mask];
                    }
                }
                playCounts[state] = over ? 1 : (int) (sum % PRIME);
            }
            hasPlayCounts = true;
        }

        int playsAt(int state) {
            if (!hasPlayCounts) {
                fillPlayCounts();
            }
            return playCounts[state];
        }

        private void fillChances() {
            int over = alley.last ? WHOLE : 0;
            for (int state = 0; state < states; state++) {
                int best = NONE;
                for (Stroke stroke : alley.strokes) {
                    if (alley.allows(state, stroke)) {
                        int straight = state & ~stroke.mask;
                        int strayed = straight & ~stroke.ahead;
                        int sum = (100 - alley.stray) * (WHOLE - chances[straight]) + alley.stray * (WHOLE - chances[strayed]);
                        best = Math.max(best, sum / 100);
                    }
                }
                chances[state] = best == NONE ? over : best;
            }
            hasChances = true;
        }

        int chanceAt(int state) {
            if (!hasChances) {
                fillChances();
            }
            return chances[state];
        }

        private void fillClever() {
            int over = alley.last ? WHOLE : 0;
            for (int state = 0; state < states; state++) {
                int best = 0;
                int sum = 0;
                int many = 0;
                for (Stroke stroke : alley.strokes) {
                    if (alley.allows(state, stroke)) {
                        best = Math.max(best, childish[state & ~stroke.mask]);
                        sum += clever[state & ~stroke.mask];
                        many++;
                    }
                }
                clever[state] = many == 0 ? over : best;
                childish[state] = many == 0 ? WHOLE - over : sum / many;
            }
            hasClever = true;
        }

        int childAt(int state) {
            if (!hasClever) {
                fillClever();
            }
            return clever[state];
        }
    }
}

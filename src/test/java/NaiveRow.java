import java.util.ArrayList;
import java.util.Collections;
import java.util.HashMap;
import java.util.HashSet;
import java.util.List;
import java.util.Map;
import java.util.Set;

/** The document once more, slowly and in another way, to compare the class with. Places are kept as texts of 0 and 1. */
final class NaiveRow {
    static final int NONE = -1;

    record Hit(int place, int many) { }

    record Note(int player, String stood, Hit hit) { }

    /** Rows, rings and the law of an alley; what is asked of it is reckoned by recursion from the definitions. */
    static final class Law {
        final List<Integer> rowOf;
        final List<Integer> rings;
        final Set<Integer> hits;
        final boolean ends;
        final boolean last;
        final int stray;
        final Map<String, Boolean> won = new HashMap<>();
        final Map<String, Integer> lasts = new HashMap<>();
        final Map<String, Long> plays = new HashMap<>();
        final Map<String, Integer> chance = new HashMap<>();
        final Map<String, Integer> child = new HashMap<>();
        final Map<String, Integer> worth = new HashMap<>();

        Law(List<Integer> rowOf, List<Integer> rings, Set<Integer> hits, boolean ends, boolean last, int stray) {
            this.rowOf = rowOf;
            this.rings = rings;
            this.hits = hits;
            this.ends = ends;
            this.last = last;
            this.stray = stray;
        }

        List<Integer> rowPlaces(int row) {
            List<Integer> places = new ArrayList<>();
            for (int p = 0; p < rowOf.size(); p++) {
                if (rowOf.get(p) == row) {
                    places.add(p);
                }
            }
            return places;
        }

        int beside(int place, int step) {
            List<Integer> places = rowPlaces(rowOf.get(place));
            int i = places.indexOf(place) + step;
            if (rings.contains(rowOf.get(place))) {
                i = Math.floorMod(i, places.size());
            }
            return i < 0 || i >= places.size() ? NONE : places.get(i);
        }

        static boolean up(String state, int place) {
            return place != NONE && state.charAt(place) == '1';
        }

        /** The places that a stroke covers; null if the row does not hold it. */
        List<Integer> cover(Hit hit) {
            List<Integer> own = new ArrayList<>();
            int at = hit.place;
            for (int i = 0; i < hit.many; i++) {
                if (at < 0 || at >= rowOf.size() || own.contains(at)) {
                    return null;
                }
                own.add(at);
                at = beside(at, 1);
            }
            return own;
        }

        boolean can(String state, Hit hit) {
            if (hit.many < 1 || hit.many > 4 || !hits.contains(hit.many)) {
                return false;
            }
            List<Integer> own = cover(hit);
            if (own == null) {
                return false;
            }
            for (int p : own) {
                if (!up(state, p)) {
                    return false;
                }
            }
            int before = beside(own.get(0), -1);
            int behind = beside(own.get(own.size() - 1), 1);
            boolean free = !up(state, before) || own.contains(before) || !up(state, behind) || own.contains(behind);
            return !ends || free;
        }

        String without(String state, List<Integer> places) {
            StringBuilder left = new StringBuilder(state);
            for (int p : places) {
                left.setCharAt(p, '0');
            }
            return left.toString();
        }

        String play(String state, Hit hit) {
            return without(state, cover(hit));
        }

        List<Hit> all(String state) {
            List<Hit> list = new ArrayList<>();
            for (int p = 0; p < state.length(); p++) {
                for (int m = 1; m <= 4; m++) {
                    if (can(state, new Hit(p, m))) {
                        list.add(new Hit(p, m));
                    }
                }
            }
            return list;
        }

        boolean won(String state) {
            Boolean known = won.get(state);
            if (known == null) {
                List<Hit> list = all(state);
                known = list.isEmpty() && last;
                for (Hit hit : list) {
                    known |= !won(play(state, hit));
                }
                won.put(state, known);
            }
            return known;
        }

        boolean winsBy(String state, Hit hit) {
            return !won(play(state, hit));
        }

        int lasts(String state) {
            Integer known = lasts.get(state);
            if (known == null) {
                List<Integer> lengths = new ArrayList<>();
                for (Hit hit : all(state)) {
                    if (!won(state) || winsBy(state, hit)) {
                        lengths.add(1 + lasts(play(state, hit)));
                    }
                }
                known = lengths.isEmpty() ? 0 : won(state) ? Collections.min(lengths) : Collections.max(lengths);
                lasts.put(state, known);
            }
            return known;
        }

        long plays(String state) {
            Long known = plays.get(state);
            if (known == null) {
                List<Hit> list = all(state);
                known = list.isEmpty() ? 1L : 0L;
                for (Hit hit : list) {
                    known = (known + plays(play(state, hit))) % 1000000007L;
                }
                plays.put(state, known);
            }
            return known;
        }

        int chance(String state) {
            Integer known = chance.get(state);
            if (known == null) {
                List<Hit> list = all(state);
                known = list.isEmpty() && last ? 10000 : 0;
                for (Hit hit : list) {
                    List<Integer> own = cover(hit);
                    String straight = without(state, own);
                    int more = beside(own.get(own.size() - 1), 1);
                    String strayed = up(straight, more) ? without(straight, List.of(more)) : straight;
                    int sum = (100 - stray) * (10000 - chance(straight)) + stray * (10000 - chance(strayed));
                    known = Math.max(known, Math.floorDiv(sum, 100));
                }
                chance.put(state, known);
            }
            return known;
        }

        int child(String state) {
            Integer known = child.get(state);
            if (known == null) {
                List<Hit> list = all(state);
                known = list.isEmpty() && last ? 10000 : 0;
                for (Hit hit : list) {
                    String left = play(state, hit);
                    List<Hit> answers = all(left);
                    int sum = 0;
                    for (Hit answer : answers) {
                        sum += child(play(left, answer));
                    }
                    int value = answers.isEmpty() ? (last ? 0 : 10000) : sum / answers.size();
                    known = Math.max(known, value);
                }
                child.put(state, known);
            }
            return known;
        }

        int worth(String state, int row) {
            StringBuilder alone = new StringBuilder();
            for (int p = 0; p < state.length(); p++) {
                alone.append(rowOf.get(p) == row ? state.charAt(p) : '0');
            }
            return worthAlone(alone.toString());
        }

        int worthAlone(String state) {
            Integer known = worth.get(state);
            if (known == null) {
                Set<Integer> left = new HashSet<>();
                for (Hit hit : all(state)) {
                    left.add(worthAlone(play(state, hit)));
                }
                known = 0;
                while (left.contains(known)) {
                    known++;
                }
                worth.put(state, known);
            }
            return known;
        }

        int[] runs(String state) {
            int[] found = new int[3];
            for (int row = 0; row < 4; row++) {
                List<Integer> places = rowPlaces(row);
                StringBuilder text = new StringBuilder();
                for (int p : places) {
                    text.append(state.charAt(p));
                }
                String line = text.toString();
                int gap = line.indexOf('0');
                if (rings.contains(row) && gap >= 0) {
                    line = line.substring(gap) + line.substring(0, gap);
                }
                for (String run : line.split("0")) {
                    if (!run.isEmpty()) {
                        found[0]++;
                        found[1] = Math.max(found[1], run.length());
                        found[2] += run.length() == 1 ? 1 : 0;
                    }
                }
            }
            return found;
        }
    }

    /** All that an image holds. */
    static final class Held {
        Law law;
        String state = "";
        int turn;
        int played;
        long x;
        List<Note> notes = new ArrayList<>();

        Held copy() {
            Held other = new Held();
            other.law = law;
            other.state = state;
            other.turn = turn;
            other.played = played;
            other.x = x;
            other.notes = new ArrayList<>(notes);
            return other;
        }
    }

    private final StringBuilder tape = new StringBuilder();
    private final List<NaiveRule> rules = new ArrayList<>();
    private Held now = new Held();
    private final List<Held> undo = new ArrayList<>();
    private final Held[] images = new Held[4];

    private boolean none() {
        return now.law == null;
    }

    static int standing(String state) {
        return (int) state.chars().filter(c -> c == '1').count();
    }

    static int bits(String state) {
        return state.isEmpty() ? 0 : Integer.parseInt(new StringBuilder(state).reverse().toString(), 2);
    }

    int feed(int... numbers) {
        if (tape.length() + 20 > 400) {
            return NONE;
        }
        for (int number : numbers) {
            for (byte b : java.nio.ByteBuffer.allocate(4).putInt(number).array()) {
                tape.append((char) (b & 255));
            }
        }
        return tape.length();
    }

    int end(int n) {
        if (n < 0 || n > tape.length()) {
            return NONE;
        }
        tape.setLength(n);
        return n;
    }

    int alley() {
        NaiveText text = new NaiveText(tape.toString());
        tape.setLength(0);
        NaiveText.Told told = text.alley();
        if (text.fault != NONE) {
            return -2 - text.fault;
        }
        long x = now.x;
        now = new Held();
        now.x = x;
        now.law = told.law();
        now.state = told.state();
        now.turn = told.first();
        undo.clear();
        return now.state.length();
    }

    int rule() {
        if (rules.size() == 6) {
            return NONE;
        }
        NaiveText text = new NaiveText(tape.toString());
        tape.setLength(0);
        NaiveRule told = text.rule();
        if (text.fault != NONE) {
            return -2 - text.fault;
        }
        rules.add(told);
        return rules.size() - 1;
    }

    int place(int place, int what) {
        if (none() || place < 0 || place >= now.state.length() || what < 0 || what > 3) {
            return NONE;
        }
        return switch (what) {
            case 0 -> now.state.charAt(place) - '0';
            case 1 -> now.law.rowOf.get(place);
            default -> now.law.beside(place, what == 2 ? -1 : 1);
        };
    }

    int can(int place, int many) {
        if (none()) {
            return NONE;
        }
        Hit hit = new Hit(place, many);
        return !now.law.can(now.state, hit) ? 0 : now.law.winsBy(now.state, hit) ? 2 : 1;
    }

    private void act() {
        undo.add(now.copy());
        if (undo.size() > 20) {
            undo.remove(0);
        }
    }

    int stroke(int place, int many) {
        Hit hit = new Hit(place, many);
        if (none() || !now.law.can(now.state, hit)) {
            return NONE;
        }
        act();
        if (now.notes.size() < 40) {
            now.notes.add(new Note(now.turn, now.state, hit));
        }
        now.state = now.law.play(now.state, hit);
        now.turn = 1 - now.turn;
        now.played++;
        return standing(now.state);
    }

    int up(int place) {
        if (none() || place < 0 || place >= now.state.length() || now.state.charAt(place) == '1') {
            return NONE;
        }
        act();
        StringBuilder text = new StringBuilder(now.state);
        text.setCharAt(place, '1');
        now.state = text.toString();
        return standing(now.state);
    }

    int pass() {
        if (none()) {
            return NONE;
        }
        act();
        now.turn = 1 - now.turn;
        return now.turn;
    }

    int undo() {
        if (undo.isEmpty()) {
            return NONE;
        }
        long x = now.x;
        now = undo.remove(undo.size() - 1);
        now.x = x;
        return undo.size();
    }

    int won() {
        return none() ? NONE : now.law.won(now.state) ? 1 : 0;
    }

    int wins(int what) {
        if (none() || what < 0 || what > 2) {
            return NONE;
        }
        List<Hit> list = new ArrayList<>(now.law.all(now.state));
        list.removeIf(hit -> !now.law.winsBy(now.state, hit));
        if (what == 0) {
            return list.size();
        }
        return list.isEmpty() ? -2 : what == 1 ? list.get(0).place : list.get(0).many;
    }

    int worth(int row) {
        return none() || row < 0 || !now.law.rowOf.contains(row) ? NONE : now.law.worth(now.state, row);
    }

    private int[] plains() {
        int[] worths = new int[41];
        for (int n = 0; n <= 40; n++) {
            Set<Integer> left = new HashSet<>();
            for (int many : now.law.hits) {
                for (int from = 0; from + many <= n; from++) {
                    if (!now.law.ends || from == 0 || from + many == n) {
                        left.add(worths[from] ^ worths[n - many - from]);
                    }
                }
            }
            while (left.contains(worths[n])) {
                worths[n]++;
            }
        }
        return worths;
    }

    int plain(int n) {
        return none() || n < 0 || n > 40 ? NONE : plains()[n];
    }

    int again(int what) {
        if (none() || what < 0 || what > 1) {
            return NONE;
        }
        int[] worths = plains();
        for (int steps = 1; steps <= 20; steps++) {
            for (int n = 0; n + 2 * steps <= 40; n++) {
                boolean same = true;
                for (int k = n; k + steps <= 40; k++) {
                    same &= worths[k] == worths[k + steps];
                }
                if (same) {
                    return what == 0 ? steps : n;
                }
            }
        }
        return -2;
    }

    int lasts() {
        return none() ? NONE : now.law.lasts(now.state);
    }

    int plays() {
        return none() ? NONE : (int) now.law.plays(now.state);
    }

    int fair(int what) {
        if (none() || what < 0 || what > 1) {
            return NONE;
        }
        int all = bits(now.state);
        for (int size = 0; size <= 12; size++) {
            for (int set = 0; set <= all; set++) {
                if ((set & all) != set || Integer.bitCount(set) != size) {
                    continue;
                }
                StringBuilder left = new StringBuilder(now.state);
                for (int p = 0; p < left.length(); p++) {
                    if ((set >> p & 1) == 1) {
                        left.setCharAt(p, '0');
                    }
                }
                if (now.law.won(left.toString()) != now.law.won(now.state)) {
                    return what == 0 ? size : set;
                }
            }
        }
        return -2;
    }

    int chance() {
        return none() ? NONE : now.law.chance(now.state);
    }

    int child() {
        return none() ? NONE : now.law.child(now.state);
    }

    /** Who wins, and how many strokes are played; null for a rule means by draws. */
    private int[] bout(NaiveRule zero, NaiveRule one, long[] x) {
        String state = now.state;
        int turn = now.turn;
        int strokes = 0;
        while (true) {
            List<Hit> list = now.law.all(state);
            if (list.isEmpty()) {
                return new int[] {now.law.last ? turn : 1 - turn, strokes};
            }
            NaiveRule rule = turn == 0 ? zero : one;
            Hit chosen;
            if (rule == null) {
                x[0] = (x[0] * 1103515245L + 12345L) % 2147483648L;
                chosen = list.get((int) (x[0] / 65536 % list.size()));
            } else {
                chosen = null;
                long most = 0;
                for (Hit hit : list) {
                    long value = rule.value(words(state, hit, turn, now.played + strokes));
                    if (chosen == null || value > most) {
                        chosen = hit;
                        most = value;
                    }
                }
            }
            state = now.law.play(state, chosen);
            turn = 1 - turn;
            strokes++;
        }
    }

    private Map<String, Long> words(String state, Hit hit, int turn, int played) {
        String left = now.law.play(state, hit);
        int[] runs = now.law.runs(left);
        Map<String, Long> words = new HashMap<>();
        words.put("place", (long) hit.place);
        words.put("many", (long) hit.many);
        words.put("row", (long) now.law.rowOf.get(hit.place));
        words.put("standing", (long) standing(state));
        words.put("left", (long) standing(left));
        words.put("runs", (long) runs[0]);
        words.put("longest", (long) runs[1]);
        words.put("alone", (long) runs[2]);
        words.put("won", now.law.won(left) ? 0L : 1L);
        words.put("turn", (long) turn);
        words.put("strokes", (long) played);
        return words;
    }

    private boolean isRule(int number) {
        return number >= 0 && number < rules.size();
    }

    int match(int rule, int other, int what) {
        if (none() || !isRule(rule) || !isRule(other) || what < 0 || what > 1) {
            return NONE;
        }
        return bout(rules.get(rule), rules.get(other), null)[what];
    }

    int knew(int player, int what) {
        if (none() || player < 0 || player > 1 || what < 0 || what > 3) {
            return NONE;
        }
        List<Note> own = new ArrayList<>(now.notes);
        own.removeIf(note -> note.player != player);
        if (what == 0) {
            return own.size();
        }
        List<Note> could = new ArrayList<>(own);
        could.removeIf(note -> !now.law.won(note.stood));
        if (what == 1) {
            return could.size();
        }
        List<Note> failed = new ArrayList<>(could);
        failed.removeIf(note -> now.law.winsBy(note.stood, note.hit));
        if (what == 2) {
            return could.size() - failed.size();
        }
        return failed.isEmpty() ? 0 : 1 + own.lastIndexOf(failed.get(failed.size() - 1));
    }

    int law(int player, int what) {
        if (none() || player < 0 || player > 1 || what < 0 || what > 3) {
            return NONE;
        }
        List<int[]> found = new ArrayList<>();
        for (int hits = 1; hits <= 15; hits++) {
            for (int ends = 0; ends <= 1; ends++) {
                for (int last = 0; last <= 1; last++) {
                    if (goesBy(player, hits, ends == 1, last == 1)) {
                        found.add(new int[] {hits, ends, last});
                    }
                }
            }
        }
        if (what == 0) {
            return found.size();
        }
        return found.isEmpty() ? -2 : found.get(0)[what - 1];
    }

    private boolean goesBy(int player, int hits, boolean ends, boolean last) {
        Set<Integer> many = new HashSet<>();
        for (int m = 1; m <= 4; m++) {
            if ((hits >> (m - 1) & 1) == 1) {
                many.add(m);
            }
        }
        Law law = new Law(now.law.rowOf, now.law.rings, many, ends, last, 0);
        for (Note note : now.notes) {
            if (note.player != player) {
                continue;
            }
            if (!law.can(note.stood, note.hit)) {
                return false;
            }
            boolean any = law.all(note.stood).stream().anyMatch(hit -> law.winsBy(note.stood, hit));
            if (any && !law.winsBy(note.stood, note.hit)) {
                return false;
            }
        }
        return true;
    }

    int seed(int x) {
        if (x < 0) {
            return NONE;
        }
        int was = (int) now.x;
        now.x = x;
        return was;
    }

    private int times(NaiveRule zero, int m, int what) {
        long[] x = {now.x};
        int wins = 0;
        int strokes = 0;
        for (int i = 0; i < m; i++) {
            int[] played = bout(zero, null, x);
            wins += played[0] == 0 ? 1 : 0;
            strokes += played[1];
        }
        return what == 0 ? wins : strokes;
    }

    int games(int m, int what) {
        return none() || m < 1 || m > 50 || what < 0 || what > 1 ? NONE : times(null, m, what);
    }

    int against(int rule, int m, int what) {
        return none() || !isRule(rule) || m < 1 || m > 50 || what < 0 || what > 1 ? NONE : times(rules.get(rule), m, what);
    }

    int count(int what) {
        Law law = now.law;
        return switch (what) {
            case 0 -> now.state.length();
            case 1 -> none() || law.rowOf.isEmpty() ? 0 : Collections.max(law.rowOf) + 1;
            case 2 -> none() ? 0 : law.hits.stream().mapToInt(m -> 1 << (m - 1)).sum();
            case 3 -> none() || !law.ends ? 0 : 1;
            case 4 -> none() || !law.last ? 0 : 1;
            case 5 -> none() ? 0 : law.stray;
            case 6 -> rules.size();
            case 7 -> now.turn;
            case 8 -> bits(now.state);
            case 9 -> now.played;
            case 10 -> undo.size();
            case 11 -> (int) now.x;
            case 12 -> tape.length();
            default -> NONE;
        };
    }

    int image(int k) {
        if (k < 0 || k > 3) {
            return NONE;
        }
        images[k] = now.copy();
        return now.played;
    }

    int back(int k) {
        if (k < 0 || k > 3 || images[k] == null) {
            return NONE;
        }
        now = images[k].copy();
        undo.clear();
        return now.played;
    }
}

import java.util.Random;

/** Runs of calls drawn from fixed seeds, each answer compared with the slow one's. */
public final class NaiveTest {
    private static final String[] WORDS = {
        "place", "many", "row", "standing", "left", "runs", "longest", "alone", "won", "turn", "strokes"
    };

    private final Random random;
    private final SkittleRow quick = new SkittleRow();
    private final NaiveRow slow = new NaiveRow();
    private final StringBuilder log = new StringBuilder();
    private boolean wrong;

    private NaiveTest(long seed) {
        random = new Random(seed);
    }

    public static void main(String[] args) {
        int runs = args.length > 0 ? Integer.parseInt(args[0]) : 150;
        int from = args.length > 1 ? Integer.parseInt(args[1]) : 0;
        int wrong = 0;
        for (int seed = from; seed < from + runs && wrong < 3; seed++) {
            NaiveTest test = new NaiveTest(seed);
            test.run(1 + seed % 12);
            if (test.wrong) {
                wrong++;
                System.out.println("seed " + seed + ":\n" + test.log);
            }
        }
        System.out.println(wrong == 0 ? "all answers are as the slow one's" : wrong + " runs are not");
        if (wrong != 0) {
            System.exit(1);
        }
    }

    private void due(String call, int got, int want) {
        if (wrong) {
            return;
        }
        log.append(call).append(" = ").append(got).append('\n');
        if (got != want) {
            wrong = true;
            log.append("  but the slow one says ").append(want).append('\n');
        }
    }

    private int pick(int from, int to) {
        return from + random.nextInt(to - from + 1);
    }

    private boolean one(int of) {
        return random.nextInt(of) == 0;
    }

    private void run(int places) {
        strayCalls(5);
        for (int i = 0; i < 12 && !wrong; i++) {
            tellAlley(places);
            tellRule();
            strayCalls(25);
        }
    }

    private void tell(String text) {
        log.append("  text: ").append(text).append('\n');
        byte[] bytes = new byte[(text.length() + 19) / 20 * 20];
        for (int i = 0; i < text.length(); i++) {
            bytes[i] = (byte) text.charAt(i);
        }
        java.nio.ByteBuffer numbers = java.nio.ByteBuffer.wrap(bytes);
        due("end(0)", quick.end(0), slow.end(0));
        for (int i = 0; i < bytes.length; i += 20) {
            int[] five = new int[5];
            for (int k = 0; k < 5; k++) {
                five[k] = numbers.getInt();
            }
            due("feed", quick.feed(five[0], five[1], five[2], five[3], five[4]), slow.feed(five));
        }
        due("end(" + text.length() + ")", quick.end(text.length()), slow.end(text.length()));
    }

    private String spoiled(String text) {
        if (!one(4)) {
            return text;
        }
        StringBuilder other = new StringBuilder(text);
        String signs = "01239;[]<>=+-*/% aelnorstwz" + (char) 0 + (char) 200;
        for (int i = pick(1, 2); i > 0 && other.length() > 0; i--) {
            int at = random.nextInt(other.length());
            char sign = signs.charAt(random.nextInt(signs.length()));
            switch (random.nextInt(4)) {
                case 0 -> other.deleteCharAt(at);
                case 1 -> other.insert(at, sign);
                case 2 -> other.setLength(at);
                default -> other.setCharAt(at, sign);
            }
        }
        return other.substring(0, Math.min(400, other.length()));
    }

    private String blank() {
        return one(3) ? "" : one(3) ? "  " : " ";
    }

    private String alleyText(int places) {
        StringBuilder text = new StringBuilder(blank() + "alley" + blank() + pick(0, 1));
        int rows = 0;
        int left = places;
        boolean ends = one(3);
        boolean last = one(3);
        for (int i = pick(1, 12); i > 0 || left > 0; i--) {
            String clause;
            int what = left > 0 && i <= 0 ? 0 : random.nextInt(7);
            if (what <= 1 && left > 0 && rows < 4) {
                int size = rows == 3 || one(3) ? left : pick(1, left);
                StringBuilder digits = new StringBuilder();
                for (int k = 0; k < size; k++) {
                    digits.append(one(5) ? '0' : '1');
                }
                clause = "row" + blank() + digits;
                left -= size;
                rows++;
                if (size >= 3 && one(2)) {
                    clause += blank() + ";" + blank() + "ring " + (rows - 1);
                }
            } else if (what <= 3) {
                clause = "hit" + blank() + pick(1, 4);
            } else if (what == 4 && ends) {
                clause = "ends";
                ends = false;
            } else if (what == 5 && last) {
                clause = "last";
                last = false;
            } else if (what == 6) {
                clause = "stray" + blank() + pick(0, 100);
            } else {
                continue;
            }
            text.append(blank()).append(';').append(blank()).append(clause);
        }
        String whole = text.append(blank()).toString();
        return whole.substring(0, Math.min(400, whole.length()));
    }

    private String value() {
        return one(3) ? "" + random.nextInt(one(6) ? 120000 : 12) : WORDS[random.nextInt(WORDS.length)];
    }

    private String sum() {
        StringBuilder text = new StringBuilder(value());
        while (one(2)) {
            text.append(blank()).append("+-*/%".charAt(random.nextInt(5))).append(blank()).append(value());
        }
        return text.toString();
    }

    private String fact(int deep) {
        if (one(4) && deep < 12) {
            return "not " + fact(deep + 1);
        }
        if (one(4) && deep < 12) {
            return "[" + blank() + test(deep + 1) + blank() + "]";
        }
        String[] signs = {"<", "<=", "=", ">=", ">"};
        return sum() + blank() + signs[random.nextInt(5)] + blank() + sum();
    }

    private String test(int deep) {
        StringBuilder text = new StringBuilder(fact(deep));
        while (one(3)) {
            text.append(one(2) ? " or " : " and ").append(fact(deep));
        }
        return text.toString();
    }

    private void tellAlley(int places) {
        tell(spoiled(alleyText(places)));
        due("alley()", quick.alley(), slow.alley());
        for (int i = 0; i < 13; i++) {
            due("count(" + i + ")", quick.count(i), slow.count(i));
        }
    }

    private void tellRule() {
        StringBuilder text = new StringBuilder();
        for (int i = one(8) ? 14 : pick(1, 4); i > 0; i--) {
            text.append("stroke ").append(sum()).append(one(2) ? "" : " if " + test(0)).append(i > 1 ? ";" : "");
        }
        tell(spoiled(text.substring(0, Math.min(400, text.length()))));
        due("rule()", quick.rule(), slow.rule());
    }

    private void strayCalls(int many) {
        for (int i = 0; i < many && !wrong; i++) {
            if (one(3)) {
                act();
            } else {
                ask();
            }
        }
    }

    private void act() {
        int a = pick(-1, 12);
        int b = pick(0, 5);
        int k = pick(-1, 4);
        switch (random.nextInt(12)) {
            case 0 -> due("up(" + a + ")", quick.up(a), slow.up(a));
            case 1 -> due("pass()", quick.pass(), slow.pass());
            case 2, 3 -> due("undo()", quick.undo(), slow.undo());
            case 4 -> due("image(" + k + ")", quick.image(k), slow.image(k));
            case 5 -> due("back(" + k + ")", quick.back(k), slow.back(k));
            case 6 -> {
                int x = random.nextInt();
                due("seed(" + x + ")", quick.seed(x), slow.seed(x));
            }
            default -> {
                for (int i = 0; i < 5 && slow.can(a, b) < 1; i++) {
                    a = pick(0, 11);
                    b = pick(1, 4);
                }
                due("stroke(" + a + ", " + b + ")", quick.stroke(a, b), slow.stroke(a, b));
            }
        }
    }

    private void ask() {
        int a = pick(-1, 12);
        int b = pick(-1, 5);
        int m = one(5) ? pick(-1, 52) : pick(1, 10);
        int r = pick(-1, 3);
        int o = pick(0, 2);
        int w = one(6) ? pick(-2, 5) : pick(0, 1);
        switch (random.nextInt(20)) {
            case 0 -> due("place(" + a + ", " + b + ")", quick.place(a, b), slow.place(a, b));
            case 1 -> due("can(" + a + ", " + b + ")", quick.can(a, b), slow.can(a, b));
            case 2 -> due("won()", quick.won(), slow.won());
            case 3 -> due("wins(" + b + ")", quick.wins(b), slow.wins(b));
            case 4 -> due("worth(" + b + ")", quick.worth(b), slow.worth(b));
            case 5 -> due("plain(" + m + ")", quick.plain(m), slow.plain(m));
            case 6 -> due("again(" + w + ")", quick.again(w), slow.again(w));
            case 7 -> due("lasts()", quick.lasts(), slow.lasts());
            case 8 -> due("plays()", quick.plays(), slow.plays());
            case 9 -> due("fair(" + w + ")", quick.fair(w), slow.fair(w));
            case 10 -> due("chance()", quick.chance(), slow.chance());
            case 11 -> due("child()", quick.child(), slow.child());
            case 12, 13 -> due("match(" + r + ", " + o + ", " + w + ")", quick.match(r, o, w), slow.match(r, o, w));
            case 14 -> due("knew(" + w + ", " + b + ")", quick.knew(w, b), slow.knew(w, b));
            case 15 -> due("law(" + w + ", " + b + ")", quick.law(w, b), slow.law(w, b));
            case 16 -> due("games(" + m + ", " + w + ")", quick.games(m, w), slow.games(m, w));
            case 17, 18 -> due("against(" + r + ", " + m + ", " + w + ")", quick.against(r, m, w), slow.against(r, m, w));
            default -> due("count(" + a + ")", quick.count(a), slow.count(a));
        }
    }
}

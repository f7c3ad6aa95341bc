/** What the tests share: answers that are due, and texts fed to the tape. */
final class Check {
    private static int wrong;

    private Check() {
    }

    static void due(String call, long got, long want) {
        if (got != want) {
            wrong++;
            System.out.println(call + " answered " + got + ", due is " + want);
        }
    }

    static void finish() {
        System.out.println(wrong == 0 ? "all answers are as due" : wrong + " answers are not as due");
        if (wrong != 0) {
            System.exit(1);
        }
    }

    /** The text alone stands on the tape then. */
    static void tape(SkittleRow x, String text) {
        x.end(0);
        for (int i = 0; i < text.length(); i += 20) {
            int[] five = new int[5];
            for (int k = 0; k < 20; k++) {
                int sign = i + k < text.length() ? text.charAt(i + k) & 255 : 0;
                five[k / 4] = five[k / 4] << 8 | sign;
            }
            x.feed(five[0], five[1], five[2], five[3], five[4]);
        }
        x.end(text.length());
    }

    static int alley(SkittleRow x, String text) {
        tape(x, text);
        return x.alley();
    }

    static int rule(SkittleRow x, String text) {
        tape(x, text);
        return x.rule();
    }

    /** A new object with an alley. */
    static SkittleRow with(String text) {
        SkittleRow x = new SkittleRow();
        if (alley(x, text) < 0) {
            due("alley() of " + text, -1, 0);
        }
        return x;
    }

    static int fault(int place, int kind) {
        return -2 - (1 + 8 * place + kind);
    }
}

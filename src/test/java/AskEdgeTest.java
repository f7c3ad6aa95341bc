/**
 * The sentences of the document's part III, and of the promises 12 to 21 and 23 to 27, that name a boundary case:
 * each with what is just within it and what is just beyond it.
 */
public final class AskEdgeTest {
    private static final int NONE = SkittleRow.NONE;
    private static final int NOTHING = -2;
    private static String sentence = "";

    private AskEdgeTest() {
    }

    public static void main(String[] args) {
        over();
        nothingChanges();
        otherAlleys();
        won();
        wins();
        worth();
        plain();
        again();
        lasts();
        plays();
        fair();
        chance();
        child();
        knew();
        law();
        lawFirst();
        seed();
        games();
        against();
        Check.finish();
    }

    private static void says(String words) {
        sentence = words;
    }

    private static void due(String call, long got, long want) {
        Check.due("\"" + sentence + "\": " + call, got, want);
    }

    private static void over() {
        says("With none standing it is over: who should play has lost; by last they have won");
        over("alley 0");
        over("alley 0;row 0");
        over("alley 0;row 000;row 000;ring 1;ends;stray 100");
        over("alley 0;row 000000000000");
        says("If no STROKE can be though some stand (no hit 1), it is over as well, and who should play has lost; by last, too, they have won");
        over("alley 0;row 1;hit 2");
        over("alley 0;row 101;hit 2");
        over("alley 0;row 1101;hit 3;hit 4;stray 50");
        over("alley 0;row 11;row 11;hit 3");
        over("alley 0;row 111;ring 0;hit 4");
        over("alley 0;row 111;ring 0;hit 1;hit 2;ends");
    }

    private static void over(String alley) {
        overFor(alley, 0, 0);
        overFor(alley + ";last", 1, 0);
        overFor(alley.replace("alley 0", "alley 1"), 0, 1);
        overFor(alley.replace("alley 0", "alley 1") + ";last", 1, 1);
    }

    private static void overFor(String alley, int has, int turn) {
        SkittleRow x = Check.with(alley);
        Check.rule(x, "stroke 1");
        int byZero = (turn == 0) == (has == 1) ? 1 : 0;
        due(alley + ": won", x.won(), has);
        due(alley + ": wins(0)", x.wins(0), 0);
        due(alley + ": wins(1)", x.wins(1), NOTHING);
        due(alley + ": wins(2)", x.wins(2), NOTHING);
        due(alley + ": can(0, 1)", x.can(0, 1), 0);
        due(alley + ": stroke(0, 1)", x.stroke(0, 1), NONE);
        due(alley + ": lasts", x.lasts(), 0);
        due(alley + ": plays", x.plays(), 1);
        due(alley + ": chance", x.chance(), 10000 * has);
        due(alley + ": child", x.child(), 10000 * has);
        due(alley + ": match who", x.match(0, 0, 0), 1 - byZero);
        due(alley + ": match strokes", x.match(0, 0, 1), 0);
        due(alley + ": games", x.games(50, 0), 50 * byZero);
        due(alley + ": games strokes", x.games(50, 1), 0);
        due(alley + ": against", x.against(0, 3, 0), 3 * byZero);
        due(alley + ": against strokes", x.against(0, 3, 1), 0);
        if (x.count(8) == 0) {
            due(alley + ": fair(0)", x.fair(0), NOTHING);
            due(alley + ": fair(1)", x.fair(1), NOTHING);
        }
    }

    private static void nothingChanges() {
        says("By what is asked nothing changes");
        SkittleRow x = Check.with("alley 1;row 11011;row 111;ring 1;hit 1;hit 2;last;stray 20");
        Check.rule(x, "stroke won");
        x.seed(99);
        x.stroke(0, 2);
        x.pass();
        x.image(0);
        x.feed(1, 2, 3, 4, 5);
        int[] before = new int[13];
        for (int what = 0; what < before.length; what++) {
            before[what] = x.count(what);
        }
        long first = askAll(x);
        due("what is asked twice", askAll(x), first);
        for (int what = 0; what < before.length; what++) {
            due("count(" + what + ")", x.count(what), before[what]);
        }
        due("acts", x.undo(), 1);
    }

    private static void otherAlleys() {
        says("is the ALLEY in place of the one there was");
        String[] alleys = {
            "alley 0;row 11111;stray 30", "alley 0;row 111;row 11;ring 0;stray 5", "alley 1;row 11111;last", "alley 0;row 11111;ends;hit 3;hit 1",
            "alley 0", "alley 0;row 111110111111;hit 2;stray 99"
        };
        SkittleRow x = new SkittleRow();
        Check.rule(x, "stroke won*10-many");
        for (String alley : alleys) {
            SkittleRow fresh = Check.with(alley);
            Check.rule(fresh, "stroke won*10-many");
            Check.alley(x, alley);
            due(alley, askAll(x), askAll(fresh));
            x.image(1);
            Check.alley(x, "alley 1;row 1111;hit 1;stray 50");
            due("another between", x.won() + x.lasts() + x.plays(), 0 + 4 + 24);
            due("another between, chances", x.chance() + x.child(), 5000 + 0);
            x.back(1);
            due(alley + ", gone back to", askAll(x), askAll(fresh));
        }
    }

    private static long askAll(SkittleRow x) {
        int[] answers = {
            x.place(3, 3), x.can(3, 2), x.won(), x.wins(0), x.wins(1), x.wins(2), x.worth(0), x.worth(1), x.plain(12),
            x.again(0), x.again(1), x.lasts(), x.plays(), x.fair(0), x.fair(1), x.chance(), x.child(), x.match(0, 0, 0),
            x.match(0, 0, 1), x.knew(1, 0), x.knew(1, 3), x.law(1, 0), x.law(1, 1), x.games(50, 0), x.games(50, 1),
            x.against(0, 50, 0), x.against(0, 50, 1)
        };
        long all = 0;
        for (int answer : answers) {
            all = all * 31 + answer;
        }
        return all;
    }

    private static void won() {
        says("WON: 1, else 0; NONE without an ALLEY");
        due("without", new SkittleRow().won(), NONE);
        due("one", Check.with("alley 0;row 1").won(), 1);
        due("one and one", Check.with("alley 0;row 1;row 1").won(), 0);
        due("one by last", Check.with("alley 0;row 1;last").won(), 0);
        due("four by last", Check.with("alley 0;row 1111;last").won(), 0);
        due("nothing strays", Check.with("alley 0;row 11;hit 1;stray 100").won(), 0);
        due("all twelve", Check.with("alley 0;row 111111111111").won(), 1);
        due("a ring of twelve", Check.with("alley 0;row 111111111111;ring 0").won(), 0);
        for (int n = 1; n <= 12; n++) {
            String row = "alley 0;ends;row " + "1".repeat(n);
            due(n + " by ends", Check.with(row).won(), n % 3 == 0 ? 0 : 1);
            due(n + " by ends and last", Check.with(row + ";last").won(), n % 3 == 1 ? 0 : 1);
            due(n + " by 1 to 4 and ends", Check.with(row + ";hit 1;hit 2;hit 3;hit 4").won(), n % 5 == 0 ? 0 : 1);
        }
        says("0: it can't, 1: it can, 2: it can, and wins");
        SkittleRow x = Check.with("alley 0;row 111");
        due("can(0, 1)", x.can(0, 1), 1);
        due("can(1, 1)", x.can(1, 1), 2);
        due("can(2, 2)", x.can(2, 2), 0);
    }

    private static void wins() {
        says("STROKES that win what 0: how many, 1: PLACE, 2: many of the first (-2: there is none). NONE for others, or without an ALLEY");
        SkittleRow none = new SkittleRow();
        SkittleRow lost = Check.with("alley 0;row 1;row 1");
        for (int what = -1; what <= 3; what++) {
            due("wins(" + what + ") without", none.wins(what), NONE);
        }
        due("wins(-1)", lost.wins(-1), NONE);
        due("wins(3)", lost.wins(3), NONE);
        due("none", lost.wins(0), 0);
        due("none, its place", lost.wins(1), NOTHING);
        due("none, how many", lost.wins(2), NOTHING);
        says("Strokes are numbered by PLACES, then by many");
        SkittleRow x = Check.with("alley 0;row 111;hit 1;hit 2;hit 3");
        due("wins(0)", x.wins(0), 2);
        due("the first has place", x.wins(1), 0);
        due("the first has many", x.wins(2), 3);
        SkittleRow five = Check.with("alley 0;row 11111;hit 3;hit 4");
        due("of five by 3 and 4", five.wins(0), 5);
        due("of five the first has place", five.wins(1), 0);
        due("of five the first has many", five.wins(2), 3);
        due("the last place of all", Check.with("alley 0;row 000000000001").wins(1), 11);
    }

    private static void worth() {
        says("WORTH of a ROW; NONE without it");
        SkittleRow x = Check.with("alley 0;row 0;row 1;row 11;row 10111");
        int[] want = {NONE, 0, 1, 2, 1 ^ 3, NONE};
        for (int row = -1; row <= 4; row++) {
            due("worth(" + row + ")", x.worth(row), want[row + 1]);
        }
        due("without an alley", new SkittleRow().worth(0), NONE);
        due("of an alley without rows", Check.with("alley 0").worth(0), NONE);
        says("WORTH of a ROW, as it stands (last not asked)");
        due("by last", Check.with("alley 0;row 11;last").worth(0), 2);
        due("none that can be, by last", Check.with("alley 0;row 1;hit 2;last").worth(0), 0);
        x.stroke(7, 1);
        due("behind a stroke", x.worth(3), 1 ^ 1 ^ 1);
        due("of twelve", Check.with("alley 0;row 111111111111").worth(0), 4);
        due("of a ring of twelve", Check.with("alley 0;row 111111111111;ring 0").worth(0), 0);
        due("of a ring with one gap", Check.with("alley 0;row 111110111111;ring 0").worth(0), 6);
        due("of a ring without its first", Check.with("alley 0;row 0111;ring 0").worth(0), 3);
        due("of a ring without its last", Check.with("alley 0;row 1110;ring 0").worth(0), 3);
        due("of a ring by 1, 2 and 3", Check.with("alley 0;row 111;ring 0;hit 1;hit 2;hit 3").worth(0), 3);
        due("of a ring of three by 4", Check.with("alley 0;row 111;ring 0;hit 4").worth(0), 0);
        due("of a ring of three by 3 and 4", Check.with("alley 0;row 111;ring 0;hit 3;hit 4").worth(0), 1);
        due("of a ring across its ends", Check.with("alley 0;row 1101;ring 0").worth(0), 3);
        due("of the same as a row", Check.with("alley 0;row 1101").worth(0), 2 ^ 1);
        due("of a ring knocked down as a whole", Check.with("alley 0;row 1111;ring 0;hit 4;ends").worth(0), 1);
    }

    /** Worths of plain rows by what a law lets, reckoned as the document tells it. */
    private static int[] plainBy(int hits, boolean ends) {
        int[] worths = new int[41];
        for (int n = 0; n <= 40; n++) {
            boolean[] left = new boolean[128];
            for (int many = 1; many <= 4; many++) {
                for (int from = 0; from + many <= n; from++) {
                    int rest = n - from - many;
                    if ((hits >> (many - 1) & 1) == 1 && (!ends || from == 0 || rest == 0)) {
                        left[worths[from] ^ worths[rest]] = true;
                    }
                }
            }
            while (left[worths[n]]) {
                worths[n]++;
            }
        }
        return worths;
    }

    private static String lawText(int hits, boolean ends) {
        StringBuilder text = new StringBuilder("alley 0");
        for (int many = 1; many <= 4; many++) {
            text.append((hits >> (many - 1) & 1) == 1 ? ";hit " + many : "");
        }
        return text.append(ends ? ";ends" : "").toString();
    }

    private static void plain() {
        says("WORTH of a PLAIN row of n; NONE without these, or an ALLEY");
        due("without an alley", new SkittleRow().plain(0), NONE);
        for (int law = 2; law < 32; law++) {
            SkittleRow x = Check.with(lawText(law / 2, law % 2 == 1));
            int[] worths = plainBy(law / 2, law % 2 == 1);
            for (int n = -1; n <= 41; n++) {
                due("hits " + law / 2 + " ends " + law % 2 + " plain(" + n + ")", x.plain(n), n < 0 || n > 40 ? NONE : worths[n]);
            }
        }
    }

    private static void again() {
        says("the least number of steps (1 to 20) for which there is an n (0 and on, n and twice the steps 40 at most) so that each PLAIN row of n or more is WORTH as much as that which is so many steps longer (this one 40 at most); the least such n");
        for (int law = 2; law < 32; law++) {
            SkittleRow x = Check.with(lawText(law / 2, law % 2 == 1));
            int[] worths = plainBy(law / 2, law % 2 == 1);
            int[] want = {NOTHING, NOTHING};
            for (int steps = 20; steps >= 1; steps--) {
                for (int n = 40 - 2 * steps; n >= 0; n--) {
                    boolean same = true;
                    for (int i = n; i + steps <= 40; i++) {
                        same &= worths[i] == worths[i + steps];
                    }
                    want = same ? new int[] {steps, n} : want;
                }
            }
            due("hits " + law / 2 + " ends " + law % 2 + " again(0)", x.again(0), want[0]);
            due("hits " + law / 2 + " ends " + law % 2 + " again(1)", x.again(1), want[1]);
        }
        says("AGAIN what 0: steps, 1: n; -2: it does not. NONE for others, or without an ALLEY");
        SkittleRow kayles = Check.with("alley 0;row 1");
        due("it does not", kayles.again(0), NOTHING);
        due("it does not, n", kayles.again(1), NOTHING);
        due("again(-1)", kayles.again(-1), NONE);
        due("again(2)", kayles.again(2), NONE);
        due("without", new SkittleRow().again(0), NONE);
    }

    private static void lasts() {
        says("LASTS: how many STROKES till it is over, if who can win hastens, who can't stays");
        due("without an alley", new SkittleRow().lasts(), NONE);
        due("one", Check.with("alley 0;row 1").lasts(), 1);
        due("who can hastens", Check.with("alley 0;row 1111;hit 1;hit 4").lasts(), 1);
        due("who can does not hasten to lose", Check.with("alley 0;row 11;last").lasts(), 2);
        due("who can't stays", Check.with("alley 0;row 11;row 11").lasts(), 4);
        due("all twelve, one each", Check.with("alley 0;row 111111111111;hit 1").lasts(), 12);
    }

    private static void plays() {
        says("PLAYS: how many plays there are till it is over, as rows of STROKES, of 1000000007 the rest");
        due("without an alley", new SkittleRow().plays(), NONE);
        due("one", Check.with("alley 0;row 1").plays(), 1);
        due("two", Check.with("alley 0;row 11").plays(), 3);
        due("three apart", Check.with("alley 0;row 10101").plays(), 6);
        due("below it", Check.with("alley 0;row 111111111111;hit 1").plays(), 479001600);
        // 12 in a ring by 1 and 2: 12 strokes that leave 11 in a row, 12 that leave 10
        long eleven = Check.with("alley 0;row 11111111111").plays();
        long ten = Check.with("alley 0;row 1111111111").plays();
        due("beyond it", Check.with("alley 0;row 111111111111;ring 0").plays(), (12 * eleven + 12 * ten) % 1000000007L);
        due("ten by 1 and 2, counted", ten, runPlays(new int[] {10}) % 1000000007L);
        due("eleven by 1 and 2, counted", eleven, runPlays(new int[] {11}) % 1000000007L);
        due("what is counted is beyond it", 12 * (eleven + ten) > 1000000007L ? 1 : 0, 1);
    }

    /** Plays by 1 and 2 of runs, counted one by one as far as runs are unlike. */
    private static long runPlays(int[] runs) {
        return runPlays(runs, new java.util.HashMap<>());
    }

    private static long runPlays(int[] runs, java.util.Map<String, Long> known) {
        int[] own = java.util.Arrays.stream(runs).filter(n -> n > 0).sorted().toArray();
        String key = java.util.Arrays.toString(own);
        Long before = known.get(key);
        if (before != null) {
            return before;
        }
        long sum = own.length == 0 ? 1 : 0;
        for (int i = 0; i < own.length; i++) {
            for (int many = 1; many <= 2; many++) {
                for (int from = 0; from + many <= own[i]; from++) {
                    int[] left = java.util.Arrays.copyOf(own, own.length + 1);
                    left[i] = from;
                    left[own.length] = own[i] - many - from;
                    sum += runPlays(left, known);
                }
            }
        }
        known.put(key, sum);
        return sum;
    }

    private static void dueFair(String alley, int many, int set) {
        SkittleRow x = Check.with(alley);
        due(alley + ": fair(0)", x.fair(0), many);
        due(alley + ": fair(1)", x.fair(1), set);
    }

    private static void fair() {
        says("FAIR: the fewest standing skittles to be taken away (all that may be a set) so that who is to play, if they can win, can't, or if they can't, can; of several sets the least as bits (PLACE 0: 1)");
        dueFair("alley 0;row 11", 2, 3);
        dueFair("alley 0;row 1", 1, 1);
        dueFair("alley 0;row 1;row 1", 1, 1);
        dueFair("alley 0;row 0101", 1, 2);
        dueFair("alley 0;row 000000000001", 1, 2048);
        dueFair("alley 0;row 11;row 1111;row 1", 1, 4);
        dueFair("alley 0;row 1;last", 1, 1);
        dueFair("alley 0;row 11;last", 1, 1);
        dueFair("alley 0;row 1111;hit 4;hit 3", 1, 2);
        dueFair("alley 0;row 11;row 11;row 1;row 1", 1, 1);
        says("FAIR what 0: how many, 1: the set; -2: by none. NONE for others, or without an ALLEY");
        dueFair("alley 0;row 1101;hit 3", NOTHING, NOTHING);
        dueFair("alley 0;row 1101;hit 3;last", NOTHING, NOTHING);
        SkittleRow x = Check.with("alley 0;row 11");
        due("fair(-1)", x.fair(-1), NONE);
        due("fair(2)", x.fair(2), NONE);
        due("without", new SkittleRow().fair(0), NONE);
    }

    private static void dueChance(String alley, int want) {
        due(alley, Check.with(alley).chance(), want);
    }

    private static void chance() {
        says("a STROKE that STRAYS takes one skittle more, that of the PLACE ahead of its last one, if there is one, that stands behind the STROKE (else it is as if it went straight)");
        due("without an alley", new SkittleRow().chance(), NONE);
        dueChance("alley 0;row 11;hit 1;stray 0", 0);
        dueChance("alley 0;row 11;hit 1;stray 1", 100);
        dueChance("alley 0;row 11;hit 1;stray 100", 10000);
        dueChance("alley 0;row 1;row 1;hit 1;stray 100", 0);
        dueChance("alley 0;row 101;hit 1;stray 100", 0);
        dueChance("alley 0;row 101;ring 0;hit 1;stray 100", 10000);
        dueChance("alley 0;row 111;hit 1;ends;stray 100", 0);
        dueChance("alley 0;row 111;ring 0;hit 3;stray 50", 10000);
        dueChance("alley 0;row 1111;hit 2;stray 100;last", 10000);
        dueChance("alley 0;row 111;hit 1;hit 2;stray 100;last", 10000);
        says("each STROKE comes to, rounded downwards");
        // two come to 3300, so that of three the first comes to 67 * 6700 / 100, the second to 6700, the third to 6700
        dueChance("alley 0;row 111;hit 1;stray 33", 6700);
        dueChance("alley 0;row 1111;hit 1;stray 33", 4422);
        dueChance("alley 0;row 111111;hit 1;stray 7", 1819);
        says("CHANCE: of 10000, that who is to play wins, if each plays so that their own is greatest");
        dueChance("alley 0;row 11", 10000);
        dueChance("alley 0;row 11;last", 10000);
        dueChance("alley 0;row 1;last", 0);
    }

    private static void dueChild(String alley, int want) {
        due(alley, Check.with(alley).child(), want);
    }

    private static void child() {
        says("behind a STROKE of theirs what they have behind each STROKE of the other one is added and divided by how many, downwards");
        due("without an alley", new SkittleRow().child(), NONE);
        dueChild("alley 0;row 1", 10000);
        dueChild("alley 0;row 1;row 1", 0);
        dueChild("alley 0;row 1;row 1;row 1", 10000);
        // behind a whole row the child has three strokes, of which one takes all
        dueChild("alley 0;row 11;row 11", 6666);
        dueChild("alley 0;row 1;last", 0);
        dueChild("alley 0;row 11;last", 10000);
        dueChild("alley 0;row 11;hit 1;stray 100", 0);
        // behind the second one the child has four strokes, of which one leaves them the last one
        dueChild("alley 0;row 1111;last", 7500);
    }

    private static void dueKnew(SkittleRow x, int player, int... want) {
        for (int what = 0; what < want.length; what++) {
            due("knew(" + player + ", " + what + ")", x.knew(player, what), want[what]);
        }
    }

    private static void twoMore(SkittleRow x) {
        for (int place = 0; place < 2; place++) {
            x.up(place);
        }
        x.pass();
    }

    private static void knew() {
        says("from which of their STROKES on (0 and on) they played none that does not though one does (as many as there are, if the last one was such)");
        SkittleRow x = Check.with("alley 0;row 11");
        dueKnew(x, 0, 0, 0, 0, 0);
        x.stroke(0, 2);
        dueKnew(x, 0, 1, 1, 1, 0);
        twoMore(x);
        x.stroke(0, 1);
        dueKnew(x, 0, 2, 2, 1, 2);
        twoMore(x);
        x.stroke(0, 2);
        dueKnew(x, 0, 3, 3, 2, 2);
        twoMore(x);
        x.stroke(1, 1);
        dueKnew(x, 0, 4, 4, 2, 4);
        dueKnew(x, 1, 0, 0, 0, 0);
        x.undo();
        dueKnew(x, 0, 3, 3, 2, 2);
        SkittleRow lost = Check.with("alley 1;row 1;row 1");
        lost.stroke(1, 1);
        dueKnew(lost, 1, 1, 0, 0, 0);
        dueKnew(lost, 0, 0, 0, 0, 0);
        lost.stroke(0, 1);
        dueKnew(lost, 0, 1, 1, 1, 0);
        says("KNEW of a player (0, 1) what 0: how many, 1: could, 2: did, 3: from which on. NONE without these, or an ALLEY");
        int[][] not = {{-1, 0}, {2, 0}, {0, -1}, {0, 4}, {1, 4}, {2, 4}};
        for (int[] of : not) {
            due("knew(" + of[0] + ", " + of[1] + ")", x.knew(of[0], of[1]), NONE);
        }
        due("without", new SkittleRow().knew(0, 0), NONE);
    }

    private static void dueLaw(SkittleRow x, int player, int... want) {
        for (int what = 0; what < want.length; what++) {
            due("law(" + player + ", " + what + ")", x.law(player, what), want[what]);
        }
    }

    private static void law() {
        says("LAW of a player what 0: how many, 1: hits, 2: 1 for ends, 3: 1 for last (-2: there is none). NONE without these, or an ALLEY");
        SkittleRow x = Check.with("alley 1;row 11");
        dueLaw(x, 0, 60, 1, 0, 0);
        dueLaw(x, 1, 60, 1, 0, 0);
        int[][] not = {{-1, 0}, {2, 0}, {0, -1}, {0, 4}, {1, 4}, {2, 4}};
        for (int[] of : not) {
            due("law(" + of[0] + ", " + of[1] + ")", x.law(of[0], of[1]), NONE);
        }
        due("without", new SkittleRow().law(0, 0), NONE);
        x.stroke(0, 2);
        twoMore(x);
        x.stroke(0, 1);
        dueLaw(x, 1, 0, NOTHING, NOTHING, NOTHING);
        dueLaw(x, 0, 60, 1, 0, 0);
        x.undo();
        due("that one undone", x.law(1, 0), 24);
    }

    private static void lawFirst() {
        says("by which each of their NOTED STROKES may be, and wins, if any does: how many; the first (by hits, ends, last): its hits, ends, last");
        SkittleRow four = Check.with("alley 0;row 1111;hit 4");
        four.stroke(0, 4);
        // without last all 16 that hit 4; by last those that hit 4 alone, 3 and 4, or 1, 2 and 4, by which none wins
        dueLaw(four, 0, 22, 8, 0, 0);
        SkittleRow last = Check.with("alley 0;row 111");
        last.stroke(0, 2);
        last.up(1);
        last.pass();
        last.stroke(1, 1);
        // that one of two wins though both may be: by last, and all that hit 1 and 2
        dueLaw(last, 0, 8, 3, 0, 1);
        SkittleRow ends = Check.with("alley 0;row 111");
        ends.stroke(0, 1);
        ends.pass();
        ends.stroke(1, 2);
        // both of two are not by last; the first of three is, if none of 3 may be, as good as any by ends
        dueLaw(ends, 0, 2, 3, 1, 0);
        SkittleRow within = Check.with("alley 0;row 111;hit 1");
        within.stroke(1, 1);
        // 1 is hit, not by ends: without last it wins; by last none does by those four that don't hit 2
        dueLaw(within, 0, 12, 1, 0, 0);
    }

    private static void seed() {
        says("x becomes a number: what it was; NONE, and nothing happens, below 0");
        SkittleRow x = new SkittleRow();
        due("0 at first", x.seed(2147483647), 0);
        due("the most", x.seed(0), 2147483647);
        due("0", x.seed(1), 0);
        due("-1", x.seed(-1), NONE);
        due("the least", x.seed(-2147483648), NONE);
        due("nothing happens", x.count(11), 1);
    }

    /** Of games with two skittles by 1 and 2, drawn: how often who begins wins, and the strokes. */
    private static long[] drawnTwos(long x, int m, boolean otherDraws) {
        long wins = 0;
        long strokes = 0;
        for (int i = 0; i < m; i++) {
            x = (x * 1103515245L + 12345L) % 2147483648L;
            boolean both = x / 65536 % 3 == 1;
            wins += both ? 1 : 0;
            strokes += both ? 1 : 2;
            if (!both && otherDraws) {
                x = (x * 1103515245L + 12345L) % 2147483648L;
            }
        }
        return new long[] {wins, strokes};
    }

    private static void games() {
        says("DRAWS: x (0 to 2147483647; 0 at first) becomes x * 1103515245 + 12345, of 2147483648 the rest; a DRAW is x / 65536. GAMES m times (1 to 50) from now on: each turn a DRAW mod all STROKES that can be");
        SkittleRow x = Check.with("alley 0;row 11");
        for (int seed : new int[] {0, 1, 65535, 65536, 1103515245, 2147483646, 2147483647}) {
            x.seed(seed);
            for (int m : new int[] {1, 2, 3, 49, 50}) {
                long[] want = drawnTwos(seed, m, true);
                due("from " + seed + " games(" + m + ", 0)", x.games(m, 0), want[0]);
                due("from " + seed + " games(" + m + ", 1)", x.games(m, 1), want[1]);
            }
            due("x as it was", x.count(11), seed);
        }
        x.pass();
        due("1 begins", x.games(50, 0), 50 - drawnTwos(2147483647, 50, true)[0]);
        x.stroke(0, 1);
        due("from now on, who wins", x.games(50, 0), 50);
        due("from now on, strokes", x.games(50, 1), 50);
        says("GAMES what 0: how often 0 wins, 1: STROKES. NONE without these, or an ALLEY");
        int[][] not = {{0, 0}, {-1, 0}, {51, 0}, {1, -1}, {1, 2}, {50, 2}};
        for (int[] of : not) {
            due("games(" + of[0] + ", " + of[1] + ")", x.games(of[0], of[1]), NONE);
        }
        due("without", new SkittleRow().games(1, 0), NONE);
        due("by last", Check.with("alley 0;row 1;last").games(50, 0), 0);
    }

    private static void against() {
        says("AGAINST by a RULE m times (1 to 50): 0 plays by it, 1 as drawn: likewise");
        SkittleRow x = Check.with("alley 1;row 11");
        Check.rule(x, "stroke 1");
        for (int seed : new int[] {0, 7, 2147483647}) {
            x.seed(seed);
            for (int m : new int[] {1, 2, 50}) {
                long[] want = drawnTwos(seed, m, false);
                due("from " + seed + " against(0, " + m + ", 0)", x.against(0, m, 0), m - want[0]);
                due("from " + seed + " against(0, " + m + ", 1)", x.against(0, m, 1), want[1]);
            }
            due("x as it was", x.count(11), seed);
        }
        x.pass();
        due("0 begins by the rule", x.against(0, 50, 0), 0);
        due("0 begins by the rule, strokes", x.against(0, 50, 1), 100);
        says("AGAINST what 0: how often 0 wins, 1: STROKES. NONE without these, or an ALLEY");
        int[][] not = {{-1, 1, 0}, {1, 1, 0}, {6, 1, 0}, {0, 0, 0}, {0, -1, 0}, {0, 51, 0}, {0, 1, -1}, {0, 1, 2}};
        for (int[] of : not) {
            due("against(" + of[0] + ", " + of[1] + ", " + of[2] + ")", x.against(of[0], of[1], of[2]), NONE);
        }
    }
}

/**
 * The sentences of the document's part II, of the promises 1, 6 to 11, 22 and 28 to 30, and of what a RULE's words
 * and sums stand for, that name a boundary case: each with what is just within it and what is just beyond it.
 */
public final class PlayEdgeTest {
    private static final int NONE = SkittleRow.NONE;
    private static final String FOUR = "alley 0;row 1111;hit 1;hit 2;hit 3;hit 4";
    private static String sentence = "";

    private PlayEdgeTest() {
    }

    public static void main(String[] args) {
        newObject();
        places();
        strokes();
        ends();
        strokesOfRings();
        refusedStrokes();
        ups();
        passes();
        notes();
        undone();
        greatest();
        twoRules();
        words();
        sums();
        facts();
        counts();
        images();
        backs();
        Check.finish();
    }

    private static void says(String words) {
        sentence = words;
    }

    private static void due(String call, long got, long want) {
        Check.due("\"" + sentence + "\": " + call, got, want);
    }

    private static void dueCounts(SkittleRow x, int... want) {
        for (int what = 0; what < want.length; what++) {
            due("count(" + what + ")", x.count(what), want[what]);
        }
    }

    private static void newObject() {
        says("No ALLEY, no RULES");
        SkittleRow x = new SkittleRow();
        dueCounts(x, 0, 0, 0, 0, 0, 0, 0, 0, 0, 0, 0, 0, 0);
        due("won", x.won(), NONE);
        due("seed", x.seed(3), 0);
        due("rule", Check.rule(x, "stroke 1"), 0);
        due("match", x.match(0, 0, 0), NONE);
        due("against", x.against(0, 1, 0), NONE);
        due("image", x.image(0), 0);
        due("back", x.back(0), 0);
        due("still no alley", x.pass(), NONE);
        says("NONE without an ALLEY");
        due("can(0, 1)", x.can(0, 1), NONE);
        due("can(-1, 0)", x.can(-1, 0), NONE);
        due("stroke", x.stroke(0, 1), NONE);
        due("up", x.up(0), NONE);
        due("undo", x.undo(), NONE);
        due("nothing happens", x.count(9) + x.count(10), 0);
    }

    private static void places() {
        says("2, 3: the PLACE beside it behind, ahead (in a ring beyond its ends; NONE). NONE without these");
        SkittleRow x = Check.with("alley 0;row 1;row 101;ring 1;row 10");
        int[][] want = {{1, 0, -1, -1}, {1, 1, 3, 2}, {0, 1, 1, 3}, {1, 1, 2, 1}, {1, 2, -1, 5}, {0, 2, 4, -1}};
        for (int place = -1; place <= 6; place++) {
            for (int what = -1; what <= 4; what++) {
                boolean there = place >= 0 && place < 6 && what >= 0 && what < 4;
                due("place(" + place + ", " + what + ")", x.place(place, what), there ? want[place][what] : NONE);
            }
        }
        due("of no alley", new SkittleRow().place(0, 0), NONE);
        due("of no place", Check.with("alley 0").place(0, 0), NONE);
        SkittleRow most = Check.with("alley 0;row 000000000001;ring 0");
        due("the twelfth", most.place(11, 0), 1);
        due("ahead of it", most.place(11, 3), 0);
        due("a thirteenth", most.place(12, 0), NONE);
    }

    private static void strokes() {
        says("knocks down so many standing skittles side by side of one ROW, the first at that PLACE, on from it");
        SkittleRow x = Check.with("alley 0;row 0110;row 1111;hit 1;hit 2;hit 3;hit 4");
        int[][] most = {{0, 0}, {1, 2}, {2, 1}, {3, 0}, {4, 4}, {5, 3}, {6, 2}, {7, 1}, {8, 0}};
        for (int[] of : most) {
            for (int many = -1; many <= 6; many++) {
                int can = x.can(of[0], many) > 0 ? 1 : 0;
                due("can(" + of[0] + ", " + many + ")", can, many >= 1 && many <= of[1] ? 1 : 0);
            }
        }
        due("stroke(1, 2)", x.stroke(1, 2), 4);
        due("standing", x.count(8), 0b11110000);
        due("the twelfth place alone", Check.with("alley 0;row 000000000001").stroke(11, 1), 0);
        says("of one ROW");
        due("from one row on to the next", Check.with("alley 0;row 1;row 1").can(0, 2), 0);
    }

    private static void ends() {
        says("ends (knocked down can be just what has, on one side or both, no standing skittle beside it but of its own)");
        SkittleRow x = Check.with("alley 0;row 11111;ends");
        int[][] may = {{0, 1, 1}, {0, 2, 1}, {1, 1, 0}, {1, 2, 0}, {2, 1, 0}, {2, 2, 0}, {3, 1, 0}, {3, 2, 1}, {4, 1, 1}};
        for (int[] of : may) {
            due("can(" + of[0] + ", " + of[1] + ")", Math.min(1, x.can(of[0], of[1])), of[2]);
        }
        due("within", x.stroke(2, 1), NONE);
        due("on both sides", Check.with("alley 0;row 010;hit 1;ends").can(1, 1), 2);
        due("all of a row", Check.with("alley 0;row 11;hit 2;ends").can(0, 2), 2);
        due("beside a place where none stands", Math.min(1, Check.with("alley 0;row 1101;hit 1;ends").can(1, 1)), 1);
        due("another row is not beside it", Math.min(1, Check.with("alley 0;row 11;row 11;hit 1;ends").can(1, 1)), 1);
        SkittleRow ring = Check.with("alley 0;row 1111;ring 0;hit 1;hit 3;hit 4;ends");
        due("one of a ring that stands", ring.can(0, 1), 0);
        due("all but one of a ring", ring.can(2, 3), 0);
        due("of its own on both sides", ring.can(2, 4), 2);
        SkittleRow open = Check.with("alley 0;row 1011;ring 0;hit 1;ends");
        due("the first of a ring with its last beside it", open.can(0, 1) > 0 ? 1 : 0, 1);
        due("the last of a ring with its first beside it", open.can(3, 1), 0);
        due("that beside the gap", open.can(2, 1) > 0 ? 1 : 0, 1);
    }

    private static void strokesOfRings() {
        says("in a ring on from the last to the first; all PLACES unlike; of a ring that stands whole and is knocked down as a whole each place is another STROKE");
        SkittleRow x = Check.with("alley 0;row 1;row 111;ring 1;hit 2;hit 3;hit 4");
        due("from the last on, two", Math.min(1, x.can(3, 2)), 1);
        due("from the last on, three", Math.min(1, x.can(3, 3)), 1);
        due("four of three", x.can(3, 4), 0);
        due("four of three from the first", x.can(1, 4), 0);
        due("stroke(3, 2)", x.stroke(3, 2), 2);
        due("standing", x.count(8), 0b0101);
        SkittleRow four = Check.with("alley 0;row 1111;ring 0;hit 4");
        due("plays of a ring of four by 4", four.plays(), 4);
        for (int place = 0; place < 4; place++) {
            due("can(" + place + ", 4)", four.can(place, 4), 2);
        }
        due("as a row it has one", Check.with("alley 0;row 1111;hit 4").plays(), 1);
        due("a ring of five by 4 has five", Check.with("alley 0;row 11111;ring 0;hit 4").plays(), 5);
        due("a ring that has a gap", Check.with("alley 0;row 1101;ring 0;hit 3").plays(), 1);
    }

    private static void refusedStrokes() {
        says("STROKE: how many stand then; NONE, and nothing happens, if it can't be");
        SkittleRow x = Check.with("alley 1;row 1101;hit 2;hit 1");
        int[][] not = {{2, 1}, {1, 2}, {3, 2}, {0, 3}, {0, 0}, {0, -1}, {0, 4}, {0, 5}, {-1, 1}, {4, 1}};
        for (int[] of : not) {
            due("stroke(" + of[0] + ", " + of[1] + ")", x.stroke(of[0], of[1]), NONE);
        }
        dueCounts(x, 4, 1, 3, 0, 0, 0, 0, 1, 0b1011, 0, 0, 0, 0);
        due("noted", x.knew(1, 0), 0);
        due("stroke(0, 2)", x.stroke(0, 2), 1);
        due("stroke(3, 1)", x.stroke(3, 1), 0);
        due("with none standing", x.stroke(3, 1), NONE);
        dueCounts(x, 4, 1, 3, 0, 0, 0, 0, 1, 0, 2, 2, 0, 0);
    }

    private static void ups() {
        says("UP: how many stand then; NONE, and nothing happens, without that PLACE, or if one stands there");
        SkittleRow x = Check.with("alley 1;row 10;row 01");
        due("up(-1)", x.up(-1), NONE);
        due("up(4)", x.up(4), NONE);
        due("up(0)", x.up(0), NONE);
        due("up(3)", x.up(3), NONE);
        dueCounts(x, 4, 2, 3, 0, 0, 0, 0, 1, 0b1001, 0, 0, 0, 0);
        due("where none stood at first", x.up(1), 3);
        due("the last that did not stand", x.up(2), 4);
        dueCounts(x, 4, 2, 3, 0, 0, 0, 0, 1, 0b1111, 0, 2, 0, 0);
        due("all stand", x.up(2), NONE);
        x.stroke(0, 2);
        due("where one was knocked down", x.up(0), 3);
        due("whose turn it is stays", x.count(7), 0);
        due("up is no stroke", x.count(9), 1);
        due("of an alley without places", Check.with("alley 0").up(0), NONE);
    }

    private static void passes() {
        says("PASS: whose turn it is then; NONE, and nothing happens, without an ALLEY");
        SkittleRow none = new SkittleRow();
        due("without", none.pass(), NONE);
        due("nothing happens", none.count(7) + none.count(10), 0);
        SkittleRow x = Check.with("alley 1");
        due("pass", x.pass(), 0);
        due("pass", x.pass(), 1);
        due("acts", x.count(10), 2);
        due("strokes", x.count(9), 0);
        SkittleRow stays = Check.with("alley 0;row 11");
        stays.pass();
        stays.stroke(0, 1);
        due("who played it", stays.knew(1, 0), 1);
        due("and who did not", stays.knew(0, 0), 0);
    }

    private static void notes() {
        says("a STROKE (it is noted, 40 at most, who played it and how all stood ahead of it)");
        SkittleRow x = Check.with("alley 0;row 1");
        for (int i = 1; i <= 40; i++) {
            x.stroke(0, 1);
            due("noted behind " + i, x.knew(0, 0), i);
            x.up(0);
            x.pass();
        }
        x.pass();
        x.stroke(0, 1);
        due("a forty-first is played", x.count(9), 41);
        due("but not noted", x.knew(1, 0), 0);
        due("the forty stay", x.knew(0, 0), 40);
        x.undo();
        due("that one undone, played", x.count(9), 40);
        due("the forty stay noted", x.knew(0, 0), 40);
        for (int i = 0; i < 4; i++) {
            x.undo();
        }
        due("the fortieth undone, noted", x.knew(0, 0), 39);
        x.stroke(0, 1);
        due("another in its stead", x.knew(0, 0), 40);
        SkittleRow how = Check.with("alley 0;row 11");
        how.stroke(0, 1);
        how.up(0);
        due("as it stood ahead of it two stood, and it did not win", how.knew(0, 1) * 10 + how.knew(0, 2), 10);
    }

    private static void undone() {
        says("The last 20 can be UNDONE, the last first");
        SkittleRow x = Check.with("alley 0;row 10;hit 1");
        x.stroke(0, 1);
        for (int i = 1; i <= 19; i++) {
            x.pass();
        }
        due("twenty acts", x.count(10), 20);
        x.up(1);
        due("twenty-one", x.count(10), 20);
        due("the last first", x.undo(), 19);
        due("up undone", x.count(8), 0);
        for (int i = 18; i >= 0; i--) {
            due("undo", x.undo(), i);
        }
        says("The last ACT is UNDONE: how many more can be; NONE, and nothing happens: none can");
        due("undo", x.undo(), NONE);
        dueCounts(x, 2, 1, 1, 0, 0, 0, 0, 1, 0, 1, 0, 0, 0);
        due("the stroke, too long ago, stays noted", x.knew(0, 0), 1);
        SkittleRow few = Check.with("alley 0;row 10;hit 1");
        due("none yet", few.undo(), NONE);
        few.stroke(0, 1);
        due("the only one", few.undo(), 0);
        dueCounts(few, 2, 1, 1, 0, 0, 0, 0, 0, 1, 0, 0, 0, 0);
        due("not noted any more", few.knew(0, 0), 0);
        due("none any more", few.undo(), NONE);
        few.stroke(1, 1);
        few.up(0);
        few.end(5);
        due("what was refused is no act", few.undo(), NONE);
        for (int i = 0; i < 25; i++) {
            few.pass();
        }
        for (int i = 0; i < 5; i++) {
            few.undo();
        }
        few.up(1);
        few.pass();
        due("on from there", few.count(10), 17);
        due("turn", few.count(7), 1);
        few.undo();
        due("turn then", few.count(7), 0);
        due("and on", few.undo(), 15);
        due("standing", few.count(8), 1);
    }

    /** How many strokes two of the same rule play. */
    private static void plays(String rule, String alley, int want) {
        SkittleRow x = Check.with(alley);
        due("rule() of '" + rule + "'", Check.rule(x, rule), 0);
        due("'" + rule + "' on '" + alley + "'", x.match(0, 0, 1), want);
    }

    /** All four go down at once if the test holds of that stroke, one by one if it does not. */
    private static void holds(String test) {
        plays("stroke 1 if many=standing and [" + test + "]", FOUR, 1);
    }

    private static void fails(String test) {
        plays("stroke 1 if many=standing and [" + test + "]", FOUR, 4);
    }

    private static void greatest() {
        says("the SUM of the RULE's first CLAUSE without a TEST, or whose TEST holds (0 without), is greatest (also if it is not above 0); of several the first");
        plays("stroke 0-many", FOUR, 4);
        plays("stroke 0-5+many", FOUR, 1);
        plays("stroke 0", FOUR, 4);
        plays("stroke many;stroke 9-many", FOUR, 1);
        plays("stroke 1 if many=4;stroke 5", FOUR, 4);
        plays("stroke 5 if many=4;stroke 9 if many=4;stroke 5", FOUR, 4);
        plays("stroke 0-5 if many<4", FOUR, 1);
        plays("stroke 5 if many=5", FOUR, 4);
        plays("stroke 5 if many=5" + ";stroke 5 if many=5".repeat(11), FOUR, 4);
        plays("stroke 0-5 if many<4" + ";stroke 9 if many=5".repeat(11), FOUR, 1);
        plays("stroke 1 if many>=3", FOUR, 2);
        plays("stroke 65536*65536*many", FOUR, 1);
        plays("stroke 65536*65536*65536*32768", FOUR, 4);
        plays("stroke 65536*65536*65536*32768*many", FOUR, 2);
    }

    private static void twoRules() {
        says("BY TWO RULES (of 0, of 1): each in turn plays");
        SkittleRow x = Check.with("alley 1;row 1111;hit 1;hit 2;hit 3;hit 4");
        Check.rule(x, "stroke many");
        Check.rule(x, "stroke 0-many");
        due("1 plays first, one; 0 the rest", x.match(0, 1, 1), 2);
        due("0 wins", x.match(0, 1, 0), 0);
        due("1 plays all", x.match(1, 0, 1), 1);
        due("1 wins", x.match(1, 0, 0), 1);
        dueCounts(x, 4, 1, 15, 0, 0, 0, 2, 1, 15, 0, 0, 0, 0);
        says("what 0: who wins, 1: how many STROKES are played; NONE without these, or an ALLEY");
        int[][] not = {{-1, 0, 0}, {2, 0, 0}, {0, -1, 0}, {0, 2, 1}, {0, 0, -1}, {0, 0, 2}, {6, 6, 6}};
        for (int[] of : not) {
            due("match(" + of[0] + ", " + of[1] + ", " + of[2] + ")", x.match(of[0], of[1], of[2]), NONE);
        }
        says("till it is over");
        String five = "alley 0;row 11111;hit 2";
        plays("stroke place", five, 2);
        due("over though one stands", who(five, "stroke place"), 1);
        due("by last", who(five + ";last", "stroke place"), 0);
        due("none standing", who("alley 0;row 00", "stroke 1"), 1);
        due("none standing, by last", who("alley 0;row 00;last", "stroke 1"), 0);
        due("none standing, 1 should play", who("alley 1", "stroke 1"), 0);
        due("none can be", who("alley 0;row 101;hit 2", "stroke 1"), 1);
        due("none can be, by last", who("alley 0;row 101;hit 2;last", "stroke 1"), 0);
        plays("stroke 1", "alley 0;row 101;hit 2", 0);
        plays("stroke 1", "alley 0;row 111;ring 0;hit 1;ends", 0);
        plays("stroke 1", "alley 0;row 111111111111;hit 1", 12);
    }

    private static int who(String alley, String rule) {
        SkittleRow x = Check.with(alley);
        Check.rule(x, rule);
        return x.match(0, 0, 0);
    }

    private static void words() {
        says("runs (runs of standing ones side by side behind it, in all ROWS; a ring that stands whole is one), longest (of these the longest; 0), alone (runs of one skittle behind it)");
        holds("runs=0 and longest=0 and alone=0");
        plays("stroke 1 if runs=0", FOUR, 1);
        plays("stroke 1 if longest=0", FOUR, 1);
        plays("stroke runs", "alley 0;row 111111111111;hit 1", 12);
        plays("stroke longest", "alley 0;row 111111111111;ring 0;hit 1", 12);
        plays("stroke 1 if alone=0", FOUR, 3);
        plays("stroke 1 if many=4 and runs=1 and longest=2", "alley 0;row 1111;row 011;ring 1;hit 1;hit 4", 3);
        plays("stroke 1 if many=4 and runs=2 and alone=2 and longest=1", "alley 0;row 1111;row 1;row 1;hit 1;hit 4", 3);
        plays("stroke 1 if many=4 and runs=1 and longest=3 and alone=0", "alley 0;row 1111;row 111;ring 1;hit 1;hit 4", 4);
        plays("stroke 1 if many=4 and runs=1 and longest=3 and alone=0", "alley 0;row 1111;row 1101;ring 1;hit 1;hit 4", 4);
        plays("stroke 1 if many=4 and runs=2 and longest=2 and alone=1", "alley 0;row 1111;row 1101;hit 1;hit 4", 4);
        plays("stroke 1 if many=4 and runs=1 and alone=1", "alley 0;row 1111;row 001;ring 1;hit 1;hit 4", 2);
        says("place (its first PLACE), many (how many it knocks down), row, standing (skittles that stand now), left (that stand behind it)");
        holds("place=0 and many=4 and row=0 and standing=4 and left=0");
        plays("stroke many if row=3", "alley 0;row 1;row 1;row 1;row 11", 4);
        plays("stroke 1 if place=11", "alley 0;row 1;row 11111111111;hit 1;hit 2;hit 3;hit 4;last", 12);
        plays("stroke 1 if place=3 and many=3", "alley 0;row 1101;ring 0;hit 1;hit 3", 1);
        says("won (1 if who is to play behind it can't win, else 0), turn (whose it is, 0 or 1), strokes (played so far)");
        holds("won=1 and turn=0 and strokes=0");
        plays("stroke 0-won", "alley 0;row 11;last", 1);
        plays("stroke won", "alley 0;row 11;last", 2);
        plays("stroke many if turn=1", "alley 1;row 1111;hit 1;hit 4", 1);
        plays("stroke many if turn=1", "alley 0;row 1111;hit 1;hit 3", 2);
        plays("stroke many if strokes=1", "alley 0;row 1111;hit 1;hit 3", 2);
        SkittleRow x = Check.with("alley 0;row 1111;hit 1;hit 3;hit 4");
        Check.rule(x, "stroke many if strokes=0");
        x.stroke(0, 1);
        due("one was played by hand", x.match(0, 0, 1), 3);
        x.undo();
        due("it is undone", x.match(0, 0, 1), 1);
        x.pass();
        due("a pass is no stroke", x.match(0, 0, 1), 1);
    }

    private static void sums() {
        String low = "99999*99999*99999*99999*2";
        long reckoned = 99999L * 99999L * 99999L * 99999L * 2L;
        says("/ is towards 0, % its rest");
        due("what is below 0", reckoned < 0 && reckoned % 13 != 0 ? 1 : 0, 1);
        holds("7/2=3 and 7%2=1 and 6/2=3 and 6%2=0 and 1/2=0 and 1%2=1");
        holds(low + "<0");
        holds(low + "/13*13>" + low);
        holds(low + "%13<0");
        holds(low + "/13*13+" + low + "%13=" + low);
        holds(low + "%99991=0-" + -(reckoned % 99991));
        says("both 0 by 0");
        holds("5/0=0 and 5%0=0 and 0/0=0 and 0%0=0");
        holds(low + "/0=0");
        holds(low + "%0=0");
        holds("7/turn=0 and 7%row=0 and 7/left=0");
        says("all goes round in 64 bits");
        String least = "65536*65536*65536*32768";
        holds("65536*65536>65536");
        holds("65536*65536*65536*65536=0");
        holds(least + "<0");
        holds(least + "-1>0");
        holds("0-" + least + "=" + least);
        holds(least + "/1=" + least);
        fails(least + "+1>0");
        fails("99999*99999*99999*99999*2>0");
    }

    private static void facts() {
        says("TEST: PART { or PART }. PART: FACT { and FACT }. FACT: not FACT | [ TEST ] (these brackets are signs) | SUM SIGN SUM");
        String[] signs = {"<", "<=", "=", ">=", ">"};
        boolean[][] hold = {{true, true, false, false, false}, {false, true, true, true, false}, {false, false, false, true, true}};
        for (int sign = 0; sign < signs.length; sign++) {
            for (int left = 3; left <= 5; left++) {
                String fact = left + signs[sign] + "4";
                plays("stroke 1 if many=4 and " + fact, FOUR, hold[left - 3][sign] ? 1 : 4);
                plays("stroke 1 if many=4 and not " + fact, FOUR, hold[left - 3][sign] ? 4 : 1);
                plays("stroke 1 if " + fact + " and many=4 and " + fact, FOUR, hold[left - 3][sign] ? 1 : 4);
                plays("stroke 1 if many=4 and [" + fact + " or 1=2]", FOUR, hold[left - 3][sign] ? 1 : 4);
            }
        }
        plays("stroke 1 if not many<4", FOUR, 1);
        plays("stroke 1 if not not many=4", FOUR, 1);
        plays("stroke 1 if not many=1 and not many=2 and not many=3", FOUR, 1);
        plays("stroke 1 if not [many=1 or many=2 or many=3]", FOUR, 1);
        plays("stroke 1 if many=4 or many=1 and many=2", FOUR, 1);
        plays("stroke 1 if [many=4 or many=1] and many=1", FOUR, 4);
        plays("stroke 1 if many=1 and many=2 or many=4", FOUR, 1);
    }

    private static void counts() {
        says("NONE for others");
        SkittleRow x = Check.with("alley 1;row 111111111111;hit 1;hit 4;ends;last;stray 100");
        x.seed(2147483647);
        for (int i = 0; i < 21; i++) {
            x.pass();
        }
        for (int i = 0; i < 20; i++) {
            x.feed(0, 0, 0, 0, 0);
        }
        dueCounts(x, 12, 1, 9, 1, 1, 100, 0, 0, 4095, 0, 20, 2147483647, 400);
        due("count(-1)", x.count(-1), NONE);
        due("count(13)", x.count(13), NONE);
        says("9: STROKES played since the ALLEY was told (or that are not UNDONE)");
        x.stroke(0, 1);
        x.stroke(1, 4);
        due("two", x.count(9), 2);
        x.undo();
        due("one undone", x.count(9), 1);
        Check.alley(x, "alley 0;row 1");
        due("another alley", x.count(9), 0);
    }

    private static void images() {
        says("An IMAGE is made: STROKES played; NONE without it");
        SkittleRow x = Check.with("alley 0;row 111111;hit 1");
        due("image(-1)", x.image(-1), NONE);
        due("image(4)", x.image(4), NONE);
        for (int k = 0; k < 4; k++) {
            due("image(" + k + ")", x.image(k), k);
            x.stroke(k, 1);
        }
        due("acts stay", x.count(10), 4);
        for (int k = 3; k >= 0; k--) {
            due("back(" + k + ")", x.back(k), k);
            due("standing", x.count(8), 63 >> k << k);
        }
        x.stroke(5, 1);
        due("made once more", x.image(3), 1);
        x.back(0);
        due("back(3)", x.back(3), 1);
        due("standing in its stead", x.count(8), 31);
        due("the one beside it stays", x.back(2), 2);
    }

    private static void backs() {
        says("All is as in an IMAGE: STROKES played; NONE, and nothing happens, if it was never made, or without it");
        SkittleRow x = Check.with("alley 1;row 101;row 111;ring 1;hit 1;hit 3;ends;last;stray 8");
        x.seed(70);
        x.stroke(0, 1);
        x.image(1);
        x.pass();
        for (int k : new int[] {-1, 0, 2, 3, 4}) {
            due("back(" + k + ")", x.back(k), NONE);
        }
        dueCounts(x, 6, 2, 5, 1, 1, 8, 0, 1, 0b111100, 1, 2, 70, 0);
        says("all but the TAPE and the RULES, as it is; gone back to, it is as it was (these stay; nothing can be UNDONE then)");
        x.seed(71);
        x.stroke(2, 1);
        Check.rule(x, "stroke 1");
        Check.alley(x, "alley 0;row 11");
        x.stroke(0, 2);
        x.feed(0, 0, 0, 0, 0);
        due("back(1)", x.back(1), 1);
        dueCounts(x, 6, 2, 5, 1, 1, 8, 1, 0, 0b111100, 1, 0, 70, 20);
        due("undo", x.undo(), NONE);
        due("noted of 1", x.knew(1, 0), 1);
        due("noted of 0", x.knew(0, 0), 0);
        due("the ring is one", x.place(5, 3), 3);
        due("acts behind it", x.pass(), 1);
        due("undo of those", x.undo(), 0);
        x.stroke(2, 1);
        due("twice", x.back(1), 1);
        dueCounts(x, 6, 2, 5, 1, 1, 8, 1, 0, 0b111100, 1, 0, 70, 20);
        int[] laws = {x.law(1, 0), x.law(1, 1), x.law(1, 2), x.law(1, 3)};
        Check.alley(x, "alley 1;row 111111;hit 3;hit 2");
        x.stroke(0, 3);
        x.back(1);
        for (int what = 0; what < laws.length; what++) {
            due("law(1, " + what + ") of what was noted then", x.law(1, what), laws[what]);
        }
        due("what is reckoned is that of this alley", x.lasts(), Check.with("alley 0;row 001;row 111;ring 1;hit 1;hit 3;ends;last").lasts());
    }
}

/** For each promise of the document: ordinary inputs, the edges it names and wrong inputs, reckoned by hand. */
public final class PromiseTest {
    private static final int NONE = SkittleRow.NONE;
    private static final int[] KAYLES = {
        0, 1, 2, 3, 1, 4, 3, 2, 1, 4, 2, 6, 4, 1, 2, 7, 1, 4, 3, 2, 1, 4, 6, 7,
        4, 1, 2, 8, 5, 4, 7, 2, 1, 8, 6, 7, 4, 1, 2, 3, 1
    };
    private static final int[] DAWSON = {
        0, 0, 1, 1, 2, 0, 3, 1, 1, 0, 3, 3, 2, 2, 4, 0, 5, 2, 2, 3, 3, 0, 1, 1, 3, 0, 2, 1, 1, 0, 4, 5, 2, 7, 4
    };

    private PromiseTest() {
    }

    public static void main(String[] args) {
        newObject();
        feed();
        end();
        alley();
        alleyFaults();
        rule();
        ruleFaults();
        place();
        can();
        strokeAndUp();
        passAndUndo();
        won();
        wins();
        worth();
        plain();
        again();
        lasts();
        plays();
        fair();
        chance();
        child();
        match();
        matchWords();
        matchSums();
        knew();
        law();
        seed();
        games();
        against();
        count();
        imageAndBack();
        farOff(new SkittleRow());
        farOff(Check.with("alley 0;row 111;row 11;ring 0"));
        Check.finish();
    }

    private static void due(String call, long got, long want) {
        Check.due(call, got, want);
    }

    private static void newObject() {
        SkittleRow x = new SkittleRow();
        for (int what = 0; what <= 12; what++) {
            due("1: count(" + what + ")", x.count(what), 0);
        }
        due("1: place(0, 0)", x.place(0, 0), NONE);
        due("1: can(0, 1)", x.can(0, 1), NONE);
        due("1: stroke(0, 1)", x.stroke(0, 1), NONE);
        due("1: up(0)", x.up(0), NONE);
        due("1: pass()", x.pass(), NONE);
        due("1: undo()", x.undo(), NONE);
        due("1: won()", x.won(), NONE);
        due("1: wins(0)", x.wins(0), NONE);
        due("1: worth(0)", x.worth(0), NONE);
        due("1: plain(0)", x.plain(0), NONE);
        due("1: again(0)", x.again(0), NONE);
        due("1: lasts()", x.lasts(), NONE);
        due("1: plays()", x.plays(), NONE);
        due("1: fair(0)", x.fair(0), NONE);
        due("1: chance()", x.chance(), NONE);
        due("1: child()", x.child(), NONE);
        due("1: rule", Check.rule(x, "stroke 1"), 0);
        due("1: match(0, 0, 0)", x.match(0, 0, 0), NONE);
        due("1: knew(0, 0)", x.knew(0, 0), NONE);
        due("1: law(0, 0)", x.law(0, 0), NONE);
        due("1: games(1, 0)", x.games(1, 0), NONE);
        due("1: against(0, 1, 0)", x.against(0, 1, 0), NONE);
        due("1: back(0)", x.back(0), NONE);
    }

    private static void feed() {
        SkittleRow x = new SkittleRow();
        due("2: feed of a text", x.feed(0x616C6C65, 0x7920313B, 0x726F7720, 0x31303100, 0), 20);
        due("2: end(15)", x.end(15), 15);
        due("2: alley()", x.alley(), 3);
        due("2: turn", x.count(7), 1);
        due("2: standing", x.count(8), 5);
        for (int i = 1; i <= 20; i++) {
            due("2: feed " + i, x.feed(-1, -1, -1, -1, -1), 20 * i);
        }
        due("2: feed 21", x.feed(0, 0, 0, 0, 0), NONE);
        due("2: bytes", x.count(12), 400);
        x.end(381);
        due("2: feed behind 381", x.feed(0, 0, 0, 0, 0), NONE);
        x.end(380);
        due("2: feed behind 380", x.feed(0, 0, 0, 0, 0), 400);
        due("2: bytes above 127", x.alley(), Check.fault(0, 0));
    }

    private static void end() {
        SkittleRow x = new SkittleRow();
        due("3: end(0) of none", x.end(0), 0);
        due("3: end(1) of none", x.end(1), NONE);
        x.feed(1, 2, 3, 4, 5);
        due("3: end(-1)", x.end(-1), NONE);
        due("3: end(21)", x.end(21), NONE);
        due("3: bytes", x.count(12), 20);
        due("3: end(20)", x.end(20), 20);
        due("3: end(7)", x.end(7), 7);
        due("3: end(8)", x.end(8), NONE);
        due("3: bytes then", x.count(12), 7);
    }

    private static void alley() {
        SkittleRow x = new SkittleRow();
        x.seed(77);
        due("4: alley", Check.alley(x, "alley 1;row 110;row 111 ; ring 1;hit 1;hit 3;ends;last;stray 7;stray 9"), 6);
        int[] counts = {6, 2, 5, 1, 1, 9, 0, 1, 0b111011, 0, 0, 77, 0};
        for (int what = 0; what < counts.length; what++) {
            due("4: count(" + what + ")", x.count(what), counts[what]);
        }
        x.stroke(0, 1);
        due("4: a fault", Check.alley(x, "alley 0;row"), Check.fault(11, 0));
        due("4: the tape behind a fault", x.count(12), 0);
        due("4: played, all stays", x.count(9), 1);
        due("4: standing, all stays", x.count(8), 0b111010);
        due("4: acts, all stay", x.count(10), 1);
        due("4: another alley", Check.alley(x, "  alley0;row1"), 1);
        due("4: hits without any", x.count(2), 3);
        due("4: played", x.count(9), 0);
        due("4: acts", x.count(10), 0);
        due("4: noted", x.knew(1, 0), 0);
        due("4: x", x.count(11), 77);
        due("4: undo", x.undo(), NONE);
        due("4: without a row", Check.alley(x, "alley 00001"), 0);
        due("4: without a row, won", x.won(), 0);
        due("4: without a row, last", Check.alley(x, "alley 0;last"), 0);
        due("4: without a row, won by last", x.won(), 1);
        due("4: 12 places", Check.alley(x, "alley 0;row 111111;row 0;row 0000;row 1"), 12);
        due("4: 40 clauses", Check.alley(x, "alley 0" + ";hit 1".repeat(39)), 0);
        due("4: a ring twice", Check.alley(x, "alley 0;row 111;ring 0;ring 0"), 3);
    }

    private static void alleyFault(String text, int place, int kind) {
        due("4: alley() of '" + text + "'", Check.alley(new SkittleRow(), text), Check.fault(place, kind));
    }

    private static void alleyFaults() {
        alleyFault("", 0, 0);
        alleyFault("  ", 2, 0);
        alleyFault("alley", 5, 0);
        alleyFault("alley 2", 6, 1);
        alleyFault("alley 000000", 6, 1);
        alleyFault("alley x", 6, 0);
        alleyFault("alleys 0", 0, 0);
        alleyFault("Alley 0", 0, 0);
        alleyFault("row 1", 0, 4);
        alleyFault(" ends;alley 0", 1, 4);
        alleyFault("pin 1", 0, 0);
        alleyFault("alley 0;", 8, 0);
        alleyFault("alley 0;;", 8, 0);
        alleyFault("alley 0 0", 8, 0);
        alleyFault("alley 0;alley 0", 8, 4);
        alleyFault("alley 0;row", 11, 0);
        alleyFault("alley 0;row 2", 12, 0);
        alleyFault("alley 0;row 12", 13, 0);
        alleyFault("alley 0;row 1 1", 14, 0);
        alleyFault("alley 0;row 1111111111111", 24, 3);
        alleyFault("alley 0;row 1111111111112", 24, 0);
        alleyFault("alley 0;row 111111111111;row 1", 29, 3);
        alleyFault("alley 0;row 1;row 1;row 1;row 1;row 1", 32, 4);
        alleyFault("alley 0;ring 0", 13, 1);
        alleyFault("alley 0;ring 0;row 111", 13, 1);
        alleyFault("alley 0;row 11;ring 0", 20, 1);
        alleyFault("alley 0;row 111;ring 1", 21, 1);
        alleyFault("alley 0;row 111;ring", 20, 0);
        alleyFault("alley 0;hit 0", 12, 1);
        alleyFault("alley 0;hit 5", 12, 1);
        alleyFault("alley 0;hit", 11, 0);
        alleyFault("alley 0;ends;ends", 13, 4);
        alleyFault("alley 0;ends 1", 13, 0);
        alleyFault("alley 0;last;last", 13, 4);
        alleyFault("alley 0;stray 101", 14, 1);
        alleyFault("alley 0" + ";hit 1".repeat(40), 242, 4);
        alleyFault("alley 0" + ";hit 1".repeat(39) + ";hat 1", 242, 0);
        alleyFault("alley 0" + (char) 0, 7, 0);
    }

    private static void rule() {
        SkittleRow x = new SkittleRow();
        due("5: the first", Check.rule(x, "stroke 1"), 0);
        due("5: a fault", Check.rule(x, "stroke"), Check.fault(6, 0));
        due("5: the tape behind a fault", x.count(12), 0);
        due("5: rules behind a fault", x.count(6), 1);
        due("5: blanks", Check.rule(x, "  stroke1+place*2if[won=1]and not many<2or left>=row;stroke 99999  "), 1);
        due("5: 10 deep", Check.rule(x, "stroke 1 if " + "[".repeat(5) + "not ".repeat(5) + "1=1" + "]".repeat(5)), 2);
        due("5: 60 values", Check.rule(x, "stroke 1" + "+1".repeat(59)), 3);
        due("5: 12 clauses", Check.rule(x, "stroke 1;".repeat(11) + "stroke 1"), 4);
        due("5: all words and signs", Check.rule(x, "stroke place-many+row*standing/left%runs if longest<=alone or won<turn;"
            + "stroke strokes if 1>=2 or 1>2"), 5);
        Check.tape(x, "stroke");
        due("5: a seventh", x.rule(), NONE);
        due("5: the tape behind it", x.count(12), 6);
        due("5: rules", x.count(6), 6);
    }

    private static void ruleFault(String text, int place, int kind) {
        due("5: rule() of '" + text + "'", Check.rule(new SkittleRow(), text), Check.fault(place, kind));
    }

    private static void ruleFaults() {
        ruleFault("", 0, 0);
        ruleFault("stroke", 6, 0);
        ruleFault("strokes 1", 0, 0);
        ruleFault("alley 0", 0, 0);
        ruleFault("stroke x", 7, 0);
        ruleFault("stroke if", 7, 0);
        ruleFault("stroke 0-", 9, 0);
        ruleFault("stroke -1", 7, 0);
        ruleFault("stroke 1;", 9, 0);
        ruleFault("stroke 1 2", 9, 0);
        ruleFault("stroke 1 if", 11, 0);
        ruleFault("stroke 1 if won", 15, 0);
        ruleFault("stroke 1 if won 1", 16, 0);
        ruleFault("stroke 1 if won = 1]", 19, 0);
        ruleFault("stroke 1 if [won = 1", 20, 0);
        ruleFault("stroke 1 if [won = 1;", 20, 0);
        ruleFault("stroke 1 if [0-7]/2=0", 16, 0);
        ruleFault("stroke [1]", 7, 0);
        ruleFault("stroke 1 if won < = 1", 18, 0);
        ruleFault("stroke 1 if won =< 1", 17, 0);
        ruleFault("stroke 1 if won = 1 = 1", 20, 0);
        ruleFault("stroke 1 if not", 15, 0);
        ruleFault("stroke 1 if nots = 1", 12, 0);
        ruleFault("stroke 1 if won = 1 and", 23, 0);
        ruleFault("stroke 5 %", 10, 0);
        ruleFault("stroke 123456", 7, 1);
        ruleFault("stroke 1 if " + "[".repeat(11) + "1=1" + "]".repeat(11), 22, 2);
        ruleFault("stroke 1 if " + "not ".repeat(11) + "1=1", 52, 2);
        ruleFault("stroke 1 if " + "[not ".repeat(6) + "1=1", 12 + 25, 2);
        ruleFault("stroke 1" + "+1".repeat(60), 127, 3);
        ruleFault("stroke 1" + "+1".repeat(59) + "+x", 127, 0);
        ruleFault("stroke 1" + "+1".repeat(59) + "+123456", 127, 1);
        ruleFault("stroke 1" + "+1".repeat(58) + " if 1=1", 129, 3);
        ruleFault("stroke 1;".repeat(12) + "stroke 1", 108, 4);
        ruleFault("stroke 1;".repeat(12) + "x", 108, 0);
        ruleFault("stroke 1;".repeat(12), 108, 0);
    }

    private static void place() {
        SkittleRow x = Check.with("alley 0;row 101;row 111;ring 1");
        int[][] due = {{1, 0, -1, 1}, {0, 0, 0, 2}, {1, 0, 1, -1}, {1, 1, 5, 4}, {1, 1, 3, 5}, {1, 1, 4, 3}};
        for (int p = 0; p < due.length; p++) {
            for (int what = 0; what < 4; what++) {
                due("6: place(" + p + ", " + what + ")", x.place(p, what), due[p][what]);
            }
        }
        due("6: place(6, 0)", x.place(6, 0), NONE);
        due("6: place(-1, 0)", x.place(-1, 0), NONE);
        due("6: place(0, 4)", x.place(0, 4), NONE);
        due("6: place(0, -1)", x.place(0, -1), NONE);
    }

    private static void can() {
        SkittleRow two = Check.with("alley 0;row 11");
        int[][] due = {{0, 1, 1}, {0, 2, 2}, {1, 1, 1}, {1, 2, 0}, {0, 0, 0}, {0, 3, 0}, {2, 1, 0}, {-1, 1, 0}, {0, -1, 0}};
        for (int[] call : due) {
            due("7: can(" + call[0] + ", " + call[1] + ")", two.can(call[0], call[1]), call[2]);
        }
        due("7: far off", two.can(Integer.MAX_VALUE, Integer.MAX_VALUE), 0);
        SkittleRow last = Check.with("alley 0;row 11;last");
        due("7: by last both", last.can(0, 2), 1);
        due("7: by last one", last.can(0, 1), 2);
        SkittleRow ends = Check.with("alley 0;row 111;hit 1;ends");
        due("7: by ends within", ends.can(1, 1), 0);
        due("7: by ends at one", ends.can(0, 1), 2);
        due("7: by ends at the other", ends.can(2, 1), 2);
        SkittleRow ring = Check.with("alley 0;row 111;ring 0;hit 3;hit 4");
        due("7: a ring from 0", ring.can(0, 3), 2);
        due("7: a ring from 2", ring.can(2, 3), 2);
        due("7: a ring twice round", ring.can(0, 4), 0);
        due("7: beyond a ring's end", Check.with("alley 0;row 1001;ring 0").can(3, 2), 2);
        due("7: beyond a row's end", Check.with("alley 0;row 11;row 11").can(1, 2), 0);
        SkittleRow whole = Check.with("alley 0;row 111;ring 0;hit 1;hit 3;ends");
        due("7: a ring that stands has no ends", whole.can(0, 1), 0);
        due("7: but as a whole", whole.can(1, 3), 2);
        SkittleRow three = Check.with("alley 0;row 111;ring 0;hit 2;ends");
        due("7: the same beside on both sides", three.can(0, 2), 0);
    }

    private static void strokeAndUp() {
        SkittleRow x = Check.with("alley 1;row 1110;row 1");
        due("8: stroke(3, 1)", x.stroke(3, 1), NONE);
        due("8: stroke(0, 3)", x.stroke(0, 3), NONE);
        due("8: stroke(-1, 1)", x.stroke(-1, 1), NONE);
        due("8: nothing happens", x.count(9) + x.count(10), 0);
        due("8: stroke(1, 2)", x.stroke(1, 2), 2);
        due("8: standing", x.count(8), 0b10001);
        due("8: turn", x.count(7), 0);
        due("8: strokes", x.count(9), 1);
        due("8: acts", x.count(10), 1);
        due("8: again", x.stroke(1, 2), NONE);
        due("9: up(0)", x.up(0), NONE);
        due("9: up(5)", x.up(5), NONE);
        due("9: up(-1)", x.up(-1), NONE);
        due("9: up(3)", x.up(3), 3);
        due("9: standing", x.count(8), 0b11001);
        due("9: turn", x.count(7), 0);
        due("9: strokes", x.count(9), 1);
        due("9: acts", x.count(10), 2);
        SkittleRow many = Check.with("alley 0;row 1");
        for (int i = 0; i < 45; i++) {
            due("8: stroke " + i, many.stroke(0, 1), 0);
            many.up(0);
        }
        due("8: played", many.count(9), 45);
        due("8: 40 are noted", many.knew(0, 0) + many.knew(1, 0), 40);
        for (int i = 0; i < 20; i++) {
            many.undo();
        }
        due("8: noted that are not undone", many.knew(0, 0) + many.knew(1, 0), 35);
    }

    private static void passAndUndo() {
        SkittleRow x = Check.with("alley 1;row 11");
        due("10: pass()", x.pass(), 0);
        due("10: pass()", x.pass(), 1);
        due("10: acts", x.count(10), 2);
        due("10: strokes", x.count(9), 0);
        x.stroke(0, 2);
        due("10: when it is over", x.pass(), 1);
        due("11: undo()", x.undo(), 3);
        due("11: turn", x.count(7), 0);
        x.up(1);
        due("11: undo() of up", x.undo(), 3);
        due("11: standing", x.count(8), 0);
        due("11: undo() of stroke", x.undo(), 2);
        due("11: standing", x.count(8), 3);
        due("11: strokes", x.count(9), 0);
        due("11: noted", x.knew(1, 0), 0);
        due("11: undo()", x.undo(), 1);
        due("11: undo()", x.undo(), 0);
        due("11: undo()", x.undo(), NONE);
        due("11: turn at last", x.count(7), 1);
        x.stroke(0, 1);
        for (int i = 0; i < 21; i++) {
            x.pass();
        }
        x.seed(5);
        for (int i = 19; i >= 0; i--) {
            due("11: undo() of the last 20", x.undo(), i);
        }
        due("11: no more", x.undo(), NONE);
        due("11: the stroke stays", x.count(8), 2);
        due("11: turn behind one pass", x.count(7), 1);
        due("11: x is no act", x.count(11), 5);
    }

    private static void won() {
        due("12: three", Check.with("alley 0;row 111").won(), 1);
        due("12: two of one", Check.with("alley 0;row 1;row 1").won(), 0);
        due("12: by last", Check.with("alley 0;row 1;last").won(), 0);
        due("12: none stand", Check.with("alley 0;row 0").won(), 0);
        due("12: none stand, by last", Check.with("alley 0;row 0;last").won(), 1);
        due("12: none can be", Check.with("alley 0;row 101;hit 2").won(), 0);
        due("12: none can be, by last", Check.with("alley 0;row 101;hit 2;last").won(), 1);
        due("12: a ring without ends", Check.with("alley 0;row 111;ring 0;hit 1;ends").won(), 0);
        SkittleRow x = Check.with("alley 0;row 111");
        x.stroke(1, 1);
        due("12: behind a stroke", x.won(), 0);
        x.up(1);
        due("12: up again", x.won(), 1);
    }

    private static void wins() {
        SkittleRow x = Check.with("alley 0;row 111");
        due("13: wins(0)", x.wins(0), 1);
        due("13: wins(1)", x.wins(1), 1);
        due("13: wins(2)", x.wins(2), 1);
        due("13: wins(3)", x.wins(3), NONE);
        due("13: wins(-1)", x.wins(-1), NONE);
        SkittleRow lost = Check.with("alley 0;row 1;row 1");
        due("13: none, wins(0)", lost.wins(0), 0);
        due("13: none, wins(1)", lost.wins(1), -2);
        due("13: none, wins(2)", lost.wins(2), -2);
        SkittleRow ring = Check.with("alley 0;row 111;ring 0;hit 3");
        due("13: a whole ring from each place", ring.wins(0), 3);
        due("13: many", ring.wins(2), 3);
        due("13: won without a stroke", Check.with("alley 0;row 1;hit 2;last").wins(0), 0);
    }

    private static void worth() {
        SkittleRow x = Check.with("alley 0;row 11111;row 1101;row 111;ring 2;last");
        due("14: worth(0)", x.worth(0), 4);
        due("14: worth(1)", x.worth(1), 3);
        due("14: worth(2)", x.worth(2), 0);
        due("14: worth(3)", x.worth(3), NONE);
        due("14: worth(-1)", x.worth(-1), NONE);
        x.stroke(10, 1);
        due("14: a ring that is open", x.worth(2), 2);
        due("14: a ring, one each", Check.with("alley 0;row 111;ring 0;hit 1").worth(0), 1);
        due("14: a whole ring by ends", Check.with("alley 0;row 1111;ring 0;hit 1;hit 4;ends").worth(0), 1);
        due("14: a whole ring by ends, no 4", Check.with("alley 0;row 1111;ring 0;hit 1;ends").worth(0), 0);
        due("14: by ends", Check.with("alley 0;row 11111;ends").worth(0), 2);
        due("14: none", Check.with("alley 0;row 000").worth(0), 0);
    }

    private static void plain() {
        SkittleRow kayles = Check.with("alley 0;row 1");
        for (int n = 0; n < KAYLES.length; n++) {
            due("15: plain(" + n + ")", kayles.plain(n), KAYLES[n]);
        }
        SkittleRow dawson = Check.with("alley 0;hit 2");
        for (int n = 0; n < DAWSON.length; n++) {
            due("15: by 2 plain(" + n + ")", dawson.plain(n), DAWSON[n]);
        }
        SkittleRow ends = Check.with("alley 0;hit 1;hit 2;hit 3;ends");
        for (int n = 0; n <= 40; n++) {
            due("15: by ends plain(" + n + ")", ends.plain(n), n % 4);
        }
        due("15: plain(-1)", kayles.plain(-1), NONE);
        due("15: plain(41)", kayles.plain(41), NONE);
    }

    private static void again() {
        SkittleRow ones = Check.with("alley 0;hit 1");
        due("16: steps", ones.again(0), 2);
        due("16: n", ones.again(1), 0);
        due("16: again(2)", ones.again(2), NONE);
        due("16: again(-1)", ones.again(-1), NONE);
        SkittleRow ends = Check.with("alley 0;hit 4;ends");
        due("16: by ends steps", ends.again(0), 8);
        due("16: by ends n", ends.again(1), 0);
        SkittleRow threes = Check.with("alley 0;hit 3");
        due("16: by 3 the last three are the same", threes.again(0), 1);
        due("16: by 3 n", threes.again(1), 38);
        due("16: by 3 those three", threes.plain(38) - threes.plain(39) + threes.plain(39) - threes.plain(40), 0);
        SkittleRow kayles = Check.with("alley 0");
        due("16: it does not, steps", kayles.again(0), -2);
        due("16: it does not, n", kayles.again(1), -2);
    }

    private static void lasts() {
        due("17: two", Check.with("alley 0;row 11").lasts(), 1);
        due("17: three", Check.with("alley 0;row 111").lasts(), 3);
        due("17: two of one", Check.with("alley 0;row 1;row 1").lasts(), 2);
        due("17: who can't stays", Check.with("alley 0;row 11;row 11").lasts(), 4);
        due("17: over", Check.with("alley 0;row 00").lasts(), 0);
        due("17: over though some stand", Check.with("alley 0;row 101;hit 2;last").lasts(), 0);
        due("17: by last", Check.with("alley 0;row 11;last").lasts(), 2);
        due("17: who can hastens", Check.with("alley 0;row 111;hit 1;hit 3").lasts(), 1);
    }

    private static void plays() {
        due("18: two", Check.with("alley 0;row 11").plays(), 3);
        due("18: over", Check.with("alley 0;row 0").plays(), 1);
        due("18: a whole ring", Check.with("alley 0;row 111;ring 0;hit 3").plays(), 3);
        due("18: twelve, one each", Check.with("alley 0;row 111111111111;hit 1").plays(), 479001600);
        due("18: by ends", Check.with("alley 0;row 1111;hit 1;ends").plays(), 8);
        due("18: the rest", Check.with("alley 0;row 111111111111;hit 1;hit 2;hit 3;hit 4").plays(), playsByRuns(new int[] {12}) % 1000000007L);
    }

    /** Plays of rows by 1 to 4, by their runs, without any rest. */
    private static long playsByRuns(int[] runs) {
        java.util.Map<String, Long> known = new java.util.HashMap<>();
        return playsByRuns(runs, known);
    }

    private static long playsByRuns(int[] runs, java.util.Map<String, Long> known) {
        java.util.Arrays.sort(runs);
        String key = java.util.Arrays.toString(runs);
        if (known.containsKey(key)) {
            return known.get(key);
        }
        long sum = 0;
        for (int i = 0; i < runs.length; i++) {
            for (int many = 1; many <= 4; many++) {
                for (int from = 0; from + many <= runs[i]; from++) {
                    int[] left = java.util.Arrays.copyOf(runs, runs.length + 1);
                    left[i] = from;
                    left[runs.length] = runs[i] - many - from;
                    sum += playsByRuns(java.util.Arrays.stream(left).filter(n -> n > 0).toArray(), known);
                }
            }
        }
        sum = runs.length == 0 ? 1 : sum;
        known.put(key, sum);
        return sum;
    }

    private static void fair() {
        SkittleRow two = Check.with("alley 0;row 11");
        due("19: all of two", two.fair(0), 2);
        due("19: their set", two.fair(1), 3);
        due("19: fair(2)", two.fair(2), NONE);
        due("19: fair(-1)", two.fair(-1), NONE);
        SkittleRow three = Check.with("alley 0;row 111");
        due("19: one of three", three.fair(0), 1);
        due("19: its set", three.fair(1), 2);
        SkittleRow lost = Check.with("alley 0;row 1;row 1");
        due("19: so that they can", lost.fair(0), 1);
        due("19: the least set", lost.fair(1), 1);
        SkittleRow none = Check.with("alley 0;row 000");
        due("19: by none", none.fair(0), -2);
        due("19: by none, the set", none.fair(1), -2);
        due("19: by none though some stand", Check.with("alley 0;row 101;hit 2").fair(0), -2);
    }

    private static void chance() {
        due("20: straight, won", Check.with("alley 0;row 11").chance(), 10000);
        due("20: straight, lost", Check.with("alley 0;row 1;row 1").chance(), 0);
        due("20: half", Check.with("alley 0;row 11;hit 1;stray 50").chance(), 5000);
        due("20: no place ahead", Check.with("alley 0;row 01;row 01;hit 1;stray 50").chance(), 0);
        due("20: none stands ahead", Check.with("alley 0;row 10;row 10;hit 1;stray 100").chance(), 0);
        due("20: beyond a ring's end", Check.with("alley 0;row 101;ring 0;hit 1;stray 30").chance(), 3000);
        due("20: by last", Check.with("alley 0;row 11;hit 1;stray 50;last").chance(), 10000);
        due("20: by last in a ring", Check.with("alley 0;row 101;ring 0;hit 1;stray 30;last").chance(), 10000);
        due("20: four", Check.with("alley 0;row 1111;hit 1;stray 33").chance(), 4422);
        due("20: six, downwards", Check.with("alley 0;row 111111;hit 1;stray 7").chance(), 1819);
        due("20: over", Check.with("alley 0;row 0;stray 50").chance(), 0);
        due("20: over by last", Check.with("alley 0;row 0;stray 50;last").chance(), 10000);
    }

    private static void child() {
        due("21: two", Check.with("alley 0;row 11").child(), 10000);
        due("21: two of one", Check.with("alley 0;row 1;row 1").child(), 0);
        due("21: two of two, downwards", Check.with("alley 0;row 11;row 11").child(), 6666);
        due("21: over", Check.with("alley 0;row 0").child(), 0);
        due("21: over by last", Check.with("alley 0;row 0;last").child(), 10000);
        due("21: by last one", Check.with("alley 0;row 1;last").child(), 0);
        due("21: by last two", Check.with("alley 0;row 11;last").child(), 10000);
        due("21: by last three", Check.with("alley 0;row 111;last").child(), 10000);
        due("21: nothing strays", Check.with("alley 0;row 11;hit 1;stray 50").child(), 0);
    }

    private static void match() {
        SkittleRow x = new SkittleRow();
        Check.rule(x, "stroke won");
        Check.rule(x, "stroke 0 - place");
        due("22: without an alley", x.match(0, 1, 0), NONE);
        Check.alley(x, "alley 0;row 111");
        due("22: match(0, 1, 0)", x.match(0, 1, 0), 0);
        due("22: match(0, 1, 1)", x.match(0, 1, 1), 3);
        due("22: match(1, 0, 0)", x.match(1, 0, 0), 1);
        due("22: match(1, 0, 1)", x.match(1, 0, 1), 2);
        due("22: match(2, 0, 0)", x.match(2, 0, 0), NONE);
        due("22: match(0, 2, 0)", x.match(0, 2, 0), NONE);
        due("22: match(-1, 0, 0)", x.match(-1, 0, 0), NONE);
        due("22: match(0, 0, 2)", x.match(0, 0, 2), NONE);
        due("22: match(0, 0, -1)", x.match(0, 0, -1), NONE);
        due("22: nothing changes", x.count(8) + x.count(9) + x.count(7), 7);
        x.pass();
        due("22: the other one first", x.match(0, 1, 0), 0);
        Check.alley(x, "alley 1;row 0");
        due("22: over", x.match(0, 1, 0), 0);
        due("22: over, strokes", x.match(0, 1, 1), 0);
        Check.alley(x, "alley 1;row 0;last");
        due("22: over by last", x.match(0, 1, 0), 1);
    }

    /** How many strokes two of the same rule play. */
    private static void played(String rule, String alley, int strokes) {
        SkittleRow x = Check.with(alley);
        due("22: rule() of " + rule, Check.rule(x, rule), 0);
        due("22: '" + rule + "' on '" + alley + "'", x.match(0, 0, 1), strokes);
    }

    private static void matchWords() {
        String four = "alley 0;row 1111;hit 1;hit 2;hit 3;hit 4";
        played("stroke many", four, 1);
        played("stroke 0-many", four, 4);
        played("stroke 7", four, 4);
        played("stroke left", four, 4);
        played("stroke 0-left", four, 1);
        played("stroke place*10+many", four, 4);
        played("stroke runs", four, 4);
        played("stroke 0-longest", four, 1);
        played("stroke alone*10+many", four, 3);
        played("stroke 9 if standing=4 and many=3;stroke many", four, 2);
        played("stroke 9 if many=2 and strokes=0;stroke 9 if many=1 and strokes>=1", four, 3);
        played("stroke many if turn=1", four, 2);
        played("stroke 10*won+many if standing<4;stroke 0-many", four, 2);
        played("stroke row*10+many", "alley 0;row 1;row 11;row 1", 3);
        played("stroke many if row=1", "alley 0;row 111;row 111;hit 1;hit 3", 4);
        SkittleRow ring = Check.with("alley 0;row 1111;row 111;ring 1;hit 1;hit 4");
        Check.rule(ring, "stroke 1 if many=4 and runs=1 and longest=3 and alone=0");
        due("22: a ring that stands is one run", ring.match(0, 0, 1), 4);
        played("stroke 1 if place=1 or place=2", "alley 0;row 111111;hit 2", 2);
        SkittleRow told = Check.with("alley 0;row 11111;hit 1;hit 2;hit 4");
        Check.rule(told, "stroke many if strokes=1");
        told.stroke(0, 1);
        due("22: strokes played by hand count", told.match(0, 0, 1), 1);
    }

    private static void matchSums() {
        String four = "alley 0;row 1111;hit 1;hit 2;hit 3;hit 4";
        played("stroke 2+3*many-many*4", four, 4);
        played("stroke 20-many-many-1", four, 4);
        played("stroke 1 if many/0=0 and many%0=0 and many=4", four, 1);
        played("stroke many if 0-7/2=0-3 and [0-7=0-7]", four, 1);
        played("stroke 1 if 17%5=2 and 17/5=3 and many=3", four, 2);
        played("stroke 1 if 100/10/5=2 and 100/7%4*2=4 and many=4", four, 1);
        played("stroke 1 if [many=3 or many=4] and not many=3", four, 1);
        played("stroke 1 if many=4 or many=1 and many=2", four, 1);
        played("stroke 1 if not not many=4", four, 1);
        played("stroke 1 if many>3", four, 1);
        played("stroke 1 if many>=3", four, 2);
        played("stroke 1 if many<2", four, 4);
        played("stroke 0-1 if many<=3;stroke 0-many", four, 4);
        // 99999 to the fourth, round 64 bits, is above 0; twice that is below 0, thrice it above but less
        played("stroke 99999*99999*99999*99999*many", four, 4);
        played("stroke 0-99999*99999*99999*99999*many", four, 1);
    }

    private static void knew() {
        SkittleRow x = Check.with("alley 0;row 111");
        for (int what = 0; what < 4; what++) {
            due("23: none played", x.knew(0, what), 0);
        }
        x.stroke(0, 1);
        x.stroke(1, 1);
        x.stroke(2, 1);
        int[][] due = {{2, 2, 1, 1}, {1, 1, 0, 1}};
        for (int player = 0; player < 2; player++) {
            for (int what = 0; what < 4; what++) {
                due("23: knew(" + player + ", " + what + ")", x.knew(player, what), due[player][what]);
            }
        }
        due("23: knew(2, 0)", x.knew(2, 0), NONE);
        due("23: knew(-1, 0)", x.knew(-1, 0), NONE);
        due("23: knew(0, 4)", x.knew(0, 4), NONE);
        due("23: knew(0, -1)", x.knew(0, -1), NONE);
        x.undo();
        due("23: undone, how many", x.knew(0, 0), 1);
        due("23: undone, from which on", x.knew(0, 3), 1);
        SkittleRow lost = Check.with("alley 1;row 1;row 1");
        lost.stroke(0, 1);
        due("23: could not", lost.knew(1, 1), 0);
        due("23: from the first on", lost.knew(1, 3), 0);
    }

    private static void law() {
        SkittleRow x = Check.with("alley 0;row 11");
        int[] all = {60, 1, 0, 0};
        int[] both = {24, 2, 0, 0};
        int[] none = {0, -2, -2, -2};
        laws(x, 1, all);
        x.stroke(0, 2);
        laws(x, 0, both);
        laws(x, 1, all);
        x.up(0);
        x.up(1);
        x.pass();
        x.stroke(0, 1);
        laws(x, 0, none);
        due("24: law(2, 0)", x.law(2, 0), NONE);
        due("24: law(-1, 0)", x.law(-1, 0), NONE);
        due("24: law(0, 4)", x.law(0, 4), NONE);
        due("24: law(0, -1)", x.law(0, -1), NONE);
        SkittleRow last = Check.with("alley 0;row 11;last");
        last.stroke(0, 1);
        // one of two wins by last, if 1 is hit; without last it does as well as any if 2 is not hit
        laws(last, 0, new int[] {16 + 8, 1, 0, 0});
        SkittleRow one = Check.with("alley 0;row 1");
        one.stroke(0, 1);
        laws(one, 0, new int[] {32, 1, 0, 0});
        SkittleRow within = Check.with("alley 0;row 111;hit 1");
        within.stroke(1, 1);
        due("24: within is without ends", within.law(0, 2), 0);
    }

    private static void laws(SkittleRow x, int player, int[] due) {
        for (int what = 0; what < 4; what++) {
            due("24: law(" + player + ", " + what + ")", x.law(player, what), due[what]);
        }
    }

    private static void seed() {
        SkittleRow x = new SkittleRow();
        due("25: seed(5)", x.seed(5), 0);
        due("25: seed(-1)", x.seed(-1), NONE);
        due("25: seed(min)", x.seed(Integer.MIN_VALUE), NONE);
        due("25: x", x.count(11), 5);
        due("25: seed(max)", x.seed(Integer.MAX_VALUE), 5);
        due("25: seed(0)", x.seed(0), Integer.MAX_VALUE);
        due("25: x is 0", x.count(11), 0);
    }

    private static void games() {
        SkittleRow x = Check.with("alley 0;row 11");
        due("26: games(5, 0)", x.games(5, 0), 3);
        due("26: games(5, 1)", x.games(5, 1), 7);
        due("26: games(50, 0)", x.games(50, 0), 24);
        due("26: games(50, 1)", x.games(50, 1), 76);
        due("26: x", x.count(11), 0);
        due("26: standing", x.count(8), 3);
        x.seed(42);
        due("26: from 42, games(5, 0)", x.games(5, 0), 2);
        due("26: from 42, games(5, 1)", x.games(5, 1), 8);
        x.seed(Integer.MAX_VALUE);
        due("26: from the most, games(50, 0)", x.games(50, 0), 12);
        due("26: from the most, games(50, 1)", x.games(50, 1), 88);
        due("26: games(0, 0)", x.games(0, 0), NONE);
        due("26: games(51, 0)", x.games(51, 0), NONE);
        due("26: games(1, 2)", x.games(1, 2), NONE);
        due("26: games(1, -1)", x.games(1, -1), NONE);
        due("26: over", Check.with("alley 1;row 0").games(7, 0), 7);
        due("26: over, by last", Check.with("alley 1;row 0;last").games(7, 0), 0);
        due("26: over, strokes", Check.with("alley 1;row 0").games(7, 1), 0);
    }

    private static void against() {
        SkittleRow x = Check.with("alley 0;row 11");
        Check.rule(x, "stroke many");
        Check.rule(x, "stroke 0-many");
        due("27: against(0, 9, 0)", x.against(0, 9, 0), 9);
        due("27: against(0, 9, 1)", x.against(0, 9, 1), 9);
        due("27: against(1, 9, 0)", x.against(1, 9, 0), 0);
        due("27: against(1, 9, 1)", x.against(1, 9, 1), 18);
        x.pass();
        // the draws of 1: 0 1 1 0 1 of three, the draws behind one stroke being 0's, who goes by the rule
        due("27: 1 draws first, wins", x.against(0, 3, 0), 2);
        due("27: 1 draws first, strokes", x.against(0, 3, 1), 5);
        due("27: x", x.count(11), 0);
        due("27: against(2, 1, 0)", x.against(2, 1, 0), NONE);
        due("27: against(-1, 1, 0)", x.against(-1, 1, 0), NONE);
        due("27: against(0, 0, 0)", x.against(0, 0, 0), NONE);
        due("27: against(0, 51, 0)", x.against(0, 51, 0), NONE);
        due("27: against(0, 1, 2)", x.against(0, 1, 2), NONE);
    }

    private static void count() {
        SkittleRow x = Check.with("alley 1;row 1101;row 1;hit 4;hit 1;stray 100;last");
        Check.rule(x, "stroke 1");
        x.seed(9);
        x.stroke(1, 1);
        x.pass();
        x.feed(0, 0, 0, 0, 0);
        int[] due = {5, 2, 9, 0, 1, 100, 1, 1, 0b11001, 1, 2, 9, 20};
        for (int what = 0; what < due.length; what++) {
            due("28: count(" + what + ")", x.count(what), due[what]);
        }
        due("28: count(13)", x.count(13), NONE);
        due("28: count(-1)", x.count(-1), NONE);
        due("28: ends", Check.with("alley 0;ends").count(3), 1);
    }

    private static void imageAndBack() {
        SkittleRow x = new SkittleRow();
        due("29: without an alley", x.image(3), 0);
        Check.alley(x, "alley 0;row 111;ends;stray 5");
        x.seed(4);
        x.stroke(0, 1);
        due("29: image(0)", x.image(0), 1);
        due("29: image(4)", x.image(4), NONE);
        due("29: image(-1)", x.image(-1), NONE);
        due("29: acts stay", x.count(10), 1);
        x.stroke(1, 1);
        x.seed(8);
        Check.rule(x, "stroke 1");
        Check.alley(x, "alley 0;row 11111");
        x.feed(0, 0, 0, 0, 0);
        due("30: back(1)", x.back(1), NONE);
        due("30: back(4)", x.back(4), NONE);
        due("30: back(-1)", x.back(-1), NONE);
        due("30: nothing happens", x.count(8), 31);
        due("30: back(0)", x.back(0), 1);
        int[] due = {3, 1, 3, 1, 0, 5, 1, 1, 6, 1, 0, 4, 20};
        for (int what = 0; what < due.length; what++) {
            due("30: count(" + what + ")", x.count(what), due[what]);
        }
        due("30: noted", x.knew(0, 0), 1);
        due("30: undo()", x.undo(), NONE);
        due("30: won() of that alley", x.won(), 1);
        x.stroke(1, 2);
        due("30: back(0) once more", x.back(0), 1);
        due("30: standing", x.count(8), 6);
        due("30: undo() behind a stroke", x.undo(), NONE);
        due("30: back to no alley", x.back(3), 0);
        due("30: won()", x.won(), NONE);
        due("30: x", x.count(11), 0);
        due("30: rules stay", x.count(6), 1);
        due("30: and on", x.back(0), 1);
        due("30: won()", x.won(), 1);
    }

    /** Numbers at the ends of what an int holds are answered like any others that are not there. */
    private static void farOff(SkittleRow x) {
        Check.rule(x, "stroke 1");
        int cannot = x.won() == NONE ? NONE : 0;
        for (int far : new int[] {Integer.MIN_VALUE, Integer.MIN_VALUE + 1, -1000, 1000, Integer.MAX_VALUE - 1, Integer.MAX_VALUE}) {
            due("far off: end", x.end(far), NONE);
            due("far off: place", x.place(far, 0), NONE);
            due("far off: place what", x.place(0, far), NONE);
            due("far off: can", x.can(far, 1), cannot);
            due("far off: can many", x.can(0, far), cannot);
            due("far off: stroke", x.stroke(far, 1), NONE);
            due("far off: stroke many", x.stroke(1, far), NONE);
            due("far off: up", x.up(far), NONE);
            due("far off: wins", x.wins(far), NONE);
            due("far off: worth", x.worth(far), NONE);
            due("far off: plain", x.plain(far), NONE);
            due("far off: again", x.again(far), NONE);
            due("far off: fair", x.fair(far), NONE);
            due("far off: match", x.match(far, 0, 0), NONE);
            due("far off: match other", x.match(0, far, 0), NONE);
            due("far off: match what", x.match(0, 0, far), NONE);
            due("far off: knew", x.knew(far, 0), NONE);
            due("far off: knew what", x.knew(0, far), NONE);
            due("far off: law", x.law(far, 0), NONE);
            due("far off: law what", x.law(0, far), NONE);
            due("far off: games", x.games(far, 0), NONE);
            due("far off: games what", x.games(1, far), NONE);
            due("far off: against", x.against(far, 1, 0), NONE);
            due("far off: against m", x.against(0, far, 0), NONE);
            due("far off: against what", x.against(0, 1, far), NONE);
            due("far off: count", x.count(far), NONE);
            due("far off: image", x.image(far), NONE);
            due("far off: back", x.back(far), NONE);
        }
        due("far off: nothing happened", x.count(9) + x.count(10), 0);
    }
}

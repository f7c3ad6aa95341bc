/**
 * The sentences of the document's "Terms", and of the promises 2 to 5, that name a boundary case of a text: each
 * with what is just within it and what is just beyond it.
 */
public final class TextEdgeTest {
    private static final int NONE = SkittleRow.NONE;
    private static String sentence = "";

    private TextEdgeTest() {
    }

    public static void main(String[] args) {
        tapeFull();
        tapeCut();
        alleyClause();
        rowClause();
        ringClause();
        hitClause();
        endsAndLast();
        strayClause();
        alleyClauses();
        alleyInPlace();
        ruleClauses();
        sixRules();
        numbers();
        words();
        blanks();
        signs();
        deep();
        sixty();
        firstFault();
        leastOfOnePlace();
        Check.finish();
    }

    private static void says(String words) {
        sentence = words;
    }

    private static void due(String call, long got, long want) {
        Check.due("\"" + sentence + "\": " + call, got, want);
    }

    private static void isAlley(String text, int places) {
        due("alley() of '" + text + "'", Check.alley(new SkittleRow(), text), places);
    }

    private static void noAlley(String text, int place, int kind) {
        isAlley(text, Check.fault(place, kind));
    }

    private static void isRule(String text) {
        due("rule() of '" + text + "'", Check.rule(new SkittleRow(), text), 0);
    }

    private static void noRule(String text, int place, int kind) {
        due("rule() of '" + text + "'", Check.rule(new SkittleRow(), text), Check.fault(place, kind));
    }

    private static void tapeFull() {
        says("Twenty bytes come behind the TAPE, of each number the highest first");
        SkittleRow x = new SkittleRow();
        due("the first feed", x.feed(0x20202020, 0x2020616C, 0x6C657930, 0x3B726F77, 0x31313001), 20);
        x.end(19);
        due("places of what was fed", x.alley(), 3);
        due("standing of what was fed", x.count(8), 0b011);
        x.feed(0x616C6C65, 0x79203B00, 0x80000000, 0xFF000000, -1);
        x.end(8);
        due("behind what was cut off", x.feed(0x616C6C65, 0, 0, 0, 0), 28);
        due("a fault at the first byte that can't be", x.alley(), Check.fault(6, 0));
        says("NONE, and none comes, if it would have more than 400");
        for (int i = 1; i <= 20; i++) {
            due("feed " + i, x.feed(0, 0, 0, 0, 0), 20 * i);
        }
        due("one more", x.feed(1, 2, 3, 4, 5), NONE);
        due("bytes behind it", x.count(12), 400);
        due("end(400)", x.end(400), 400);
        due("end(381)", x.end(381), 381);
        due("401 bytes", x.feed(0, 0, 0, 0, 0), NONE);
        due("none came", x.count(12), 381);
        due("end(380)", x.end(380), 380);
        due("400 bytes", x.feed(0, 0, 0, 0, 0), 400);
        says("An ALLEY is a text of at most 400 bytes");
        isAlley("alley 0;row 11" + " ".repeat(386), 2);
        isAlley(" ".repeat(386) + "alley 0;row 11", 2);
        noAlley(" ".repeat(392) + "alley 0;", 400, 0);
        noAlley(" ".repeat(400), 400, 0);
        isRule(" ".repeat(392) + "stroke 1");
        noRule("stroke 1" + " ".repeat(391) + "x", 399, 0);
        noRule(" ".repeat(394) + "stroke", 400, 0);
    }

    private static void tapeCut() {
        says("The TAPE has its first n bytes alone: n");
        SkittleRow x = new SkittleRow();
        due("end(0) of none", x.end(0), 0);
        Check.tape(x, "alley 1;row 1;row 0");
        due("end(13)", x.end(13), 13);
        due("bytes", x.count(12), 13);
        due("what is cut off is gone", x.end(19), NONE);
        due("its alley", x.alley(), 1);
        says("NONE, and nothing happens, if it has not so many, or n is below 0");
        due("end(1) of none", x.end(1), NONE);
        due("end(-1) of none", x.end(-1), NONE);
        x.feed(0, 0, 0, 0, 0);
        due("end(21)", x.end(21), NONE);
        due("end(-1)", x.end(-1), NONE);
        due("bytes still", x.count(12), 20);
        due("end(20)", x.end(20), 20);
        due("end(0)", x.end(0), 0);
        due("bytes then", x.count(12), 0);
    }

    private static void alleyClause() {
        says("alley NUMBER (whose turn it is first, 0 or 1; once, the first CLAUSE)");
        due("0", Check.with("alley 0").count(7), 0);
        due("1", Check.with("alley 1").count(7), 1);
        noAlley("alley 2", 6, 1);
        noAlley("alley 10", 6, 1);
        noAlley("alley 99999", 6, 1);
        noAlley("alley", 5, 0);
        noAlley("alley ", 6, 0);
        noAlley("alley;", 5, 0);
        noAlley("alley -1", 6, 0);
        noAlley("alley 0;alley 0", 8, 4);
        noAlley("alley 0;row 1; alley 1", 15, 4);
        noAlley("row 1;alley 0", 0, 4);
        noAlley("row 1", 0, 4);
        noAlley("row", 0, 4);
        noAlley("ring 0", 0, 4);
        noAlley("hit 9", 0, 4);
        noAlley("  ends", 2, 4);
        noAlley("last;alley 0", 0, 4);
        noAlley("stray 1;alley 0", 0, 4);
        noAlley(";alley 0", 0, 0);
        noAlley("", 0, 0);
    }

    private static void rowClause() {
        says("row DIGITS (1 where a skittle stands, 0 where none does: PLACES, one behind the other, 1 to 12; together 12 at most)");
        isAlley("alley 0;row 0", 1);
        isAlley("alley 0;row 1", 1);
        isAlley("alley 0;row 101101101101", 12);
        due("standing of the first row on", Check.with("alley 0;row 10;row 110").count(8), 0b01101);
        due("all twelve", Check.with("alley 0;row 111111111111").count(8), 4095);
        noAlley("alley 0;row", 11, 0);
        noAlley("alley 0;row ", 12, 0);
        noAlley("alley 0;row ;", 12, 0);
        noAlley("alley 0;row 2", 12, 0);
        noAlley("alley 0;row 102", 14, 0);
        noAlley("alley 0;row 1x", 13, 0);
        says("3 one VALUE or FACT too many (at its first byte; of a FACT at its SIGN), a 13th PLACE (of all; at its digit)");
        noAlley("alley 0;row 1010101010101", 24, 3);
        noAlley("alley 0;row 10101010101010", 24, 3);
        isAlley("alley 0;row 1010101010;row 11", 12);
        noAlley("alley 0;row 1010101010;row 111", 29, 3);
        noAlley("alley 0;row 111111111111;row  0", 30, 3);
        noAlley("alley 0;row 111;row 111;row 111;row 1111", 35 + 4, 3);
        noAlley("alley 0;row 111111111111;row", 28, 0);
        says("ROWS 0 to 3, in the order told; PLACES have numbers through all ROWS");
        SkittleRow four = Check.with("alley 0;row 1;row 01;row 001;row 000001");
        due("rows", four.count(1), 4);
        int[] rows = {0, 1, 1, 2, 2, 2, 3, 3, 3, 3, 3, 3};
        for (int place = 0; place < rows.length; place++) {
            due("row of " + place, four.place(place, 1), rows[place]);
        }
        due("standing", four.count(8), 1 | 1 << 2 | 1 << 5 | 1 << 11);
        noAlley("alley 0;row 1;row 1;row 1;row 1;row 1", 32, 4);
        noAlley("alley 0;row 1;row 1;row 1;row 1;row", 32, 4);
        due("rows of none", Check.with("alley 0").count(1), 0);
    }

    private static void ringClause() {
        says("ring NUMBER (a ROW that was told, of 3 PLACES or more: its last PLACE is beside its first one)");
        SkittleRow x = Check.with("alley 0;row 111;ring 0");
        due("behind the first", x.place(0, 2), 2);
        due("ahead of the last", x.place(2, 3), 0);
        SkittleRow last = Check.with("alley 0;row 1;row 1;row 1;row 000;ring 3");
        due("behind the first of the fourth", last.place(3, 2), 5);
        due("ahead of the last of the fourth", last.place(5, 3), 3);
        due("the first row is none", last.place(0, 2), NONE);
        isAlley("alley 0;row 111;ring 0;ring 0", 3);
        isAlley("alley 0;row 111;row 111;ring 1;ring 00", 6);
        noAlley("alley 0;row 11;ring 0", 20, 1);
        noAlley("alley 0;row 1;ring 0", 19, 1);
        noAlley("alley 0;ring 0", 13, 1);
        noAlley("alley 0;ring 0;row 111", 13, 1);
        noAlley("alley 0;row 111;ring 1;row 111", 21, 1);
        noAlley("alley 0;row 111;ring 4", 21, 1);
        noAlley("alley 0;row 111;ring 99999", 21, 1);
        noAlley("alley 0;row 111;ring 000000", 21, 1);
        noAlley("alley 0;row 111;row 11;ring 1", 28, 1);
        noAlley("alley 0;row 111;ring", 20, 0);
        noAlley("alley 0;row 111;ring x", 21, 0);
    }

    private static void hitClause() {
        says("hit NUMBER (1 to 4: so many side by side may be knocked down, all standing; without any hit 1 and 2)");
        for (int many = 1; many <= 4; many++) {
            SkittleRow x = Check.with("alley 0;row 111111;hit " + many);
            due("hits of " + many, x.count(2), 1 << (many - 1));
            for (int other = 0; other <= 5; other++) {
                due("by hit " + many + " can(0, " + other + ") is one", Math.min(1, x.can(0, other)), other == many ? 1 : 0);
            }
            String gap = "1".repeat(many - 1) + "0" + "1";
            due("not all standing", Check.with("alley 0;row " + gap + ";hit " + many).can(0, many), 0);
        }
        due("without any", Check.with("alley 0;row 1").count(2), 3);
        due("of several all", Check.with("alley 0;hit 3;hit 1;hit 3;hit 4").count(2), 13);
        due("1 and 2 told", Check.with("alley 0;hit 2;hit 1").count(2), 3);
        due("2 alone has no 1", Check.with("alley 0;row 11;hit 2").can(0, 1), 0);
        noAlley("alley 0;hit 0", 12, 1);
        noAlley("alley 0;hit 5", 12, 1);
        noAlley("alley 0;hit 14", 12, 1);
        noAlley("alley 0;hit", 11, 0);
        noAlley("alley 0;hit;", 11, 0);
    }

    private static void endsAndLast() {
        says("ends and last once at most");
        SkittleRow x = Check.with("alley 0;last;ends");
        due("ends", x.count(3), 1);
        due("last", x.count(4), 1);
        due("no ends", Check.with("alley 0;last").count(3), 0);
        due("no last", Check.with("alley 0;ends").count(4), 0);
        noAlley("alley 0;ends;last;ends", 18, 4);
        noAlley("alley 0;last; last", 14, 4);
        noAlley("alley 0;ends 1", 13, 0);
        noAlley("alley 0;last last", 13, 0);
    }

    private static void strayClause() {
        says("stray NUMBER (0 to 100: the hand STRAYS so often of 100 times; of several the last, 0 without)");
        due("0", Check.with("alley 0;stray 0").count(5), 0);
        due("100", Check.with("alley 0;stray 100").count(5), 100);
        due("of several", Check.with("alley 0;stray 7;hit 1;stray 100;stray 3").count(5), 3);
        due("of several the last is 0", Check.with("alley 0;stray 7;stray 0").count(5), 0);
        due("without", Check.with("alley 0").count(5), 0);
        noAlley("alley 0;stray 101", 14, 1);
        noAlley("alley 0;stray 7;stray 200", 22, 1);
        noAlley("alley 0;stray", 13, 0);
        noAlley("alley 0;stray -1", 14, 0);
    }

    private static void alleyClauses() {
        says("CLAUSE { ; CLAUSE }, 40 at most");
        isAlley("alley 0" + ";hit 1".repeat(38) + ";row 1", 1);
        noAlley("alley 0" + ";hit 1".repeat(39) + ";hit 1", 242, 4);
        noAlley("alley 0" + ";hit 1".repeat(39) + "; row 1", 243, 4);
        noAlley("alley 0" + ";hit 1".repeat(39) + ";row", 242, 4);
        noAlley("alley 0" + ";hit 1".repeat(39) + ";", 242, 0);
        noAlley("alley 0" + ";hit 1".repeat(39) + ";;", 242, 0);
        noAlley("alley 0" + ";hit 1".repeat(39) + " x", 242, 0);
        noAlley("alley 0;", 8, 0);
        noAlley("alley 0;;row 1", 8, 0);
        noAlley("alley 0 row 1", 8, 0);
        noAlley("alley 0;stroke 1", 8, 0);
        noAlley("alley 0;rows 1", 8, 0);
        noAlley("alley 0;ro 1", 8, 0);
    }

    private static void alleyInPlace() {
        says("The TAPE, which is empty then, is the ALLEY in place of the one there was (nothing is NOTED, nothing to be UNDONE; x stays): how many PLACES");
        SkittleRow x = Check.with("alley 1;row 111;row 111;ring 1;hit 3;ends;last;stray 9");
        x.seed(12345);
        x.stroke(0, 3);
        x.image(2);
        due("another", Check.alley(x, "alley 0;row 10"), 2);
        int[] counts = {2, 1, 3, 0, 0, 0, 0, 0, 1, 0, 0, 12345, 0};
        for (int what = 0; what < counts.length; what++) {
            due("count(" + what + ")", x.count(what), counts[what]);
        }
        due("noted of 0", x.knew(0, 0), 0);
        due("noted of 1", x.knew(1, 0), 0);
        due("undo", x.undo(), NONE);
        due("images stay", x.back(2), 1);
        says("-2 - its FAULT, and all stays");
        x.pass();
        x.up(1);
        int[] before = new int[13];
        for (int what = 0; what < before.length; what++) {
            before[what] = x.count(what);
        }
        due("a fault", Check.alley(x, "alley 0;row 1;row 2"), Check.fault(18, 0));
        due("an empty text", Check.alley(x, ""), Check.fault(0, 0));
        due("a fault at the end", Check.alley(x, "alley 0;row 1;hit"), Check.fault(17, 0));
        for (int what = 0; what < before.length; what++) {
            due("count(" + what + ")", x.count(what), before[what]);
        }
        due("noted stays", x.knew(1, 0), 1);
        due("acts stay", x.undo(), 1);
        due("the first alley may be a fault", Check.alley(new SkittleRow(), "alley"), Check.fault(5, 0));
        SkittleRow none = new SkittleRow();
        Check.alley(none, "alley 0;row 1;x");
        due("behind it there is none", none.won(), NONE);
        due("nor places", none.count(0), 0);
    }

    private static void ruleClauses() {
        says("RULES 0 to 5: texts likewise, 12 CLAUSES at most: stroke SUM [ if TEST ]");
        isRule("stroke 1" + ";stroke 1".repeat(11));
        noRule("stroke 1" + ";stroke 1".repeat(12), 108, 4);
        noRule("stroke 1" + ";stroke 1".repeat(11) + "; stroke", 109, 4);
        noRule("stroke 1" + ";stroke 1".repeat(11) + ";", 108, 0);
        noRule("", 0, 0);
        noRule("stroke", 6, 0);
        noRule("stroke ", 7, 0);
        noRule("stroke;", 6, 0);
        noRule("stroke 1;", 9, 0);
        noRule("stroke 1;;stroke 1", 9, 0);
        noRule("stroke 1 if", 11, 0);
        noRule("stroke 1 if;", 11, 0);
        noRule("stroke if 1=1", 7, 0);
        noRule("stroke stroke", 7, 0);
        noRule("stroke 1 if 1=1 if 1=1", 16, 0);
        noRule("stroke 1 1", 9, 0);
        noRule("if 1=1", 0, 0);
        noRule("1", 0, 0);
    }

    private static void sixRules() {
        says("The TAPE, which is empty then, is a RULE: its number; -2 - its FAULT; NONE, and nothing happens: there are 6");
        SkittleRow x = new SkittleRow();
        for (int i = 0; i < 6; i++) {
            due("rules ahead of it", x.count(6), i);
            due("a fault", Check.rule(x, "stroke 1 +"), Check.fault(10, 0));
            due("the tape behind a fault", x.count(12), 0);
            due("rule " + i, Check.rule(x, "stroke " + i), i);
            due("the tape behind it", x.count(12), 0);
        }
        due("a seventh", Check.rule(x, "stroke 6"), NONE);
        due("its tape", x.count(12), 8);
        due("rules", x.count(6), 6);
        due("a seventh with a fault", Check.rule(x, "stroke"), NONE);
        due("a seventh of nothing", Check.rule(x, ""), NONE);
        due("another alley takes the tape", Check.alley(x, "alley 0;row 11"), 2);
        due("rules stay", x.count(6), 6);
        due("a rule needs no alley, and plays in a later one", x.match(5, 5, 1), 2);
    }

    private static void numbers() {
        says("VALUE: NUMBER (1 to 5 digits, as far as digits go on)");
        isRule("stroke 0");
        isRule("stroke 99999");
        isRule("stroke 00000");
        noRule("stroke 000000", 7, 1);
        noRule("stroke 100000", 7, 1);
        noRule("stroke 1+1234567890123456789012345", 9, 1);
        noRule("stroke 1 if 1=123456", 14, 1);
        isAlley("alley 00001", 0);
        noAlley("alley 000001", 6, 1);
        isAlley("alley 0;hit 00004", 0);
        noAlley("alley 0;hit 000004", 12, 1);
        isAlley("alley 0;stray 00100", 0);
        noAlley("alley 0;stray 000100", 14, 1);
        noAlley("alley 99999999999999999999999999", 6, 1);
        // 2 to the 32nd and 1 more would be 1, were digits beyond the fifth reckoned round an int
        noAlley("alley 4294967297", 6, 1);
    }

    private static void words() {
        says("WORDS (small letters, as far as these go on)");
        isRule("stroke1");
        isRule("stroke many+1if2=many;stroke3");
        noRule("stroke many1", 11, 0);
        noRule("strokemany", 0, 0);
        noRule("stroke 1 ifwon=1", 9, 0);
        noRule("stroke placex", 7, 0);
        noRule("stroke plac", 7, 0);
        noRule("stroke Place", 7, 0);
        noRule("stroke placE", 7, 0);
        noRule("Stroke 1", 0, 0);
        noRule("stroke 1 if notwon=1", 12, 0);
        noRule("stroke 1 if 1=1 andwon=1", 16, 0);
        noRule("stroke 1 if 1=1 orwon=1", 16, 0);
        isAlley("alley1;row1;hit2;stray3", 1);
        for (String word : "alley row ring hit ends last stray".split(" ")) {
            String text = word.equals("alley") ? "" : "alley 0;row 111;";
            noAlley(text + "x" + word.substring(1) + " 1", text.length(), 0);
            noAlley(text + word.substring(0, word.length() - 1) + "x 1", text.length(), 0);
            noAlley(text + word + "a 1", text.length(), 0);
            noAlley(text + word + "z 1", text.length(), 0);
        }
        for (String word : "place many row standing left runs longest alone won turn strokes".split(" ")) {
            isRule("stroke " + word);
            isRule("stroke 1 if " + word + "=" + word);
            noRule("stroke x" + word.substring(1), 7, 0);
            noRule("stroke " + word.substring(0, word.length() - 1) + "x", 7, 0);
            noRule("stroke " + word + "a", 7, 0);
            noRule("stroke " + word + "z", 7, 0);
        }
        noAlley("alleyx", 0, 0);
        noAlley("alle", 0, 0);
        noAlley("alley 0;endslast", 8, 0);
        noAlley("alley 0;ENDS", 8, 0);
        noAlley("alley 0;ends{", 12, 0);
        noAlley("alley 0;ends`", 12, 0);
    }

    private static void blanks() {
        says("Blanks (32) stand between as one likes (not within DIGITS)");
        isAlley("   alley   1   ;   row   101   ;   ring   0   ;   ends   ", 3);
        isRule("   stroke   1   +   place   if   [   not   1   =   1   ]   or   2   <=   3   ");
        isRule("stroke1+place if[not 1=1]or 2<=3and 1<2");
        noAlley("alley 0;row 1 1", 14, 0);
        noAlley("alley 0 1", 8, 0);
        noAlley("al ley 0", 0, 0);
        noAlley("alley 0;  ", 10, 0);
        noAlley("alley\t0", 5, 0);
        noAlley("alley 0\n", 7, 0);
        noAlley("alley 0" + (char) 0, 7, 0);
        noAlley("alley" + (char) 160 + "0", 5, 0);
        noAlley((char) 31 + "alley 0", 0, 0);
        noRule("str oke 1", 0, 0);
        noRule("stroke 1 2", 9, 0);
        noRule("stroke\t1", 6, 0);
        noRule("stroke 1" + (char) 255, 8, 0);
    }

    private static void signs() {
        says("SUM SIGN SUM, SIGN one of < <= = >= >");
        for (String sign : new String[] {"<", "<=", "=", ">=", ">"}) {
            isRule("stroke 1 if 1" + sign + "2");
            noRule("stroke 1 if 1" + sign, 13 + sign.length(), 0);
            noRule("stroke 1 if " + sign + "2", 12, 0);
        }
        noRule("stroke 1 if 1", 13, 0);
        noRule("stroke 1 if 1< =2", 15, 0);
        noRule("stroke 1 if 1==2", 14, 0);
        noRule("stroke 1 if 1=<2", 14, 0);
        noRule("stroke 1 if 1=>2", 14, 0);
        noRule("stroke 1 if 1<>2", 14, 0);
        noRule("stroke 1 if 1!2", 13, 0);
        noRule("stroke 1 if 1<2<3", 15, 0);
        noRule("stroke 1<2", 8, 0);
        says("FACT: not FACT | [ TEST ] (these brackets are signs)");
        noRule("stroke 1 if [1]=1", 14, 0);
        noRule("stroke [1]", 7, 0);
        noRule("stroke 1 if [1=1", 16, 0);
        noRule("stroke 1 if [1=1;stroke 1", 16, 0);
        noRule("stroke 1 if 1=1]", 15, 0);
        noRule("stroke 1 if [1=1]]", 17, 0);
        noRule("stroke 1 if []", 13, 0);
        noRule("stroke 1 if not", 15, 0);
        noRule("stroke 1 if 1=1 not 1=1", 16, 0);
        noRule("stroke 1 if 1=1 or", 18, 0);
        noRule("stroke 1 if or 1=1", 12, 0);
        noRule("stroke 1 if 1=1 and", 19, 0);
        noRule("stroke 1 if 1=1 and or 1=1", 20, 0);
        says("SUM: TERM { (+ or -) TERM }. TERM: VALUE { (* or / or %) VALUE }");
        isRule("stroke 1+2-3*4/5%6");
        for (String sign : new String[] {"+", "-", "*", "/", "%"}) {
            noRule("stroke 1" + sign, 9, 0);
            noRule("stroke " + sign + "1", 7, 0);
            noRule("stroke 1" + sign + sign + "1", 9, 0);
        }
    }

    private static void deep() {
        says("[ and not lie within one another 10 deep at most");
        String ten = "[".repeat(10) + "1=1" + "]".repeat(10);
        String tenNot = "not ".repeat(10) + "1=1";
        isRule("stroke 1 if " + ten);
        isRule("stroke 1 if " + tenNot);
        isRule("stroke 1 if " + "[not ".repeat(5) + "1=1" + "]".repeat(5));
        isRule("stroke 1 if " + "not [".repeat(5) + "1=1" + "]".repeat(5));
        isRule("stroke 1 if " + ten + "and " + tenNot + " or " + ten);
        isRule("stroke 1 if " + ten + ";stroke 1 if " + tenNot);
        isRule("stroke 1 if " + "[".repeat(9) + "not 1=1 and [1=1] or not 1=1" + "]".repeat(9));
        isRule("stroke 1 if [1=1]" + "and[1=1]".repeat(18));
        isRule("stroke 1 if not 1=1" + " or not 1=1".repeat(18));
        says("2 too deep (at the sign that opens, or the word not)");
        noRule("stroke 1 if [" + ten + "]", 22, 2);
        noRule("stroke 1 if not " + tenNot, 52, 2);
        noRule("stroke 1 if " + "[not ".repeat(5) + "[1=1" + "]".repeat(6), 37, 2);
        noRule("stroke 1 if " + "not [".repeat(5) + "not 1=1" + "]".repeat(5), 37, 2);
        noRule("stroke 1 if " + "[".repeat(10) + "1=1 and not 1=1" + "]".repeat(10), 30, 2);
        noRule("stroke 1 if " + "[".repeat(11), 22, 2);
        noRule("stroke 1 if " + "[".repeat(10), 22, 0);
        noRule("stroke 1 if " + "[".repeat(380), 22, 2);
    }

    private static void sixty() {
        says("at most 60 VALUES (of SUMS) and FACTS made of a SIGN, together");
        isRule("stroke 1" + "+1".repeat(59));
        noRule("stroke 1" + "+1".repeat(60), 127, 3);
        isRule("stroke many" + "*many".repeat(59));
        noRule("stroke many" + "*many".repeat(59) + "+1", 307, 3);
        String sum = "stroke 1+1+1+1+1;";
        isRule(sum.repeat(11) + "stroke 1+1+1+1+1");
        noRule(sum.repeat(11) + "stroke 1+1+1+1+1+1", 204, 3);
        String facts = " if 1=1" + " and 1=1".repeat(18);
        isRule("stroke 1+1+1" + facts);
        isRule("stroke 1+1+1 if [not 1=1]" + "and[not 1=1]".repeat(18));
        noRule("stroke 1" + facts + " and 1=1", 166, 3);
        noRule("stroke 1+1" + facts + " and 1=1", 167, 3);
        noRule("stroke 1+1" + facts + " and 1<=1", 167, 3);
        noRule("stroke 1+1+1" + facts + " and 1=1", 168, 3);
        noRule("stroke 1+1+1" + facts + ";stroke 1", 171, 3);
    }

    private static void firstFault() {
        says("FAULTS, the first along the text, 1 + 8 * its place and");
        due("of nothing", Check.alley(new SkittleRow(), ""), -3);
        due("at 0 the fourth", Check.alley(new SkittleRow(), "row 1"), -7);
        due("at 6 the first", Check.alley(new SkittleRow(), "alley 2"), -52);
        due("of no rule", Check.rule(new SkittleRow(), ""), -3);
        noAlley("alley 2;row 2", 6, 1);
        noAlley("alley 0;row 1;hit 9;hat", 18, 1);
        noAlley("alley 0;hat;hit 9", 8, 0);
        noAlley("alley 0;row 1111111111111;alley 0", 24, 3);
        noAlley("alley 0;alley 0;row 1111111111111", 8, 4);
        noAlley("alley 0;ring 0;ends;ends", 13, 1);
        noRule("stroke 123456 x", 7, 1);
        noRule("stroke x 123456", 7, 0);
        noRule("stroke 1 if " + "[".repeat(11) + "x", 22, 2);
        noRule("stroke 1 if [x" + "[".repeat(11), 13, 0);
        says("or the end (behind the last byte)");
        noAlley("alley 0;row 1;", 14, 0);
        noAlley("alley 0;row 1;   ", 17, 0);
        noRule("stroke 1 if won", 15, 0);
        noRule("stroke 1 if won = ", 18, 0);
    }

    private static void leastOfOnePlace() {
        says("Of one place the least");
        noAlley("pin 1", 0, 0);
        noAlley("alley 0" + ";hit 1".repeat(39) + ";hat 1", 242, 0);
        noAlley("alley 0;row 1111111111112", 24, 0);
        noRule("stroke 1;".repeat(12) + "x", 108, 0);
        noRule("stroke 1;".repeat(12) + "strokes 1", 108, 0);
        noRule("stroke 1" + "+1".repeat(59) + "+x", 127, 0);
        noRule("stroke 1" + "+1".repeat(59) + "+123456", 127, 1);
        noRule("stroke 1" + "+1".repeat(59) + "+", 127, 0);
        noRule("stroke 1+1 if 1=1" + " and 1=1".repeat(18) + " and 1!1", 167, 0);
        noRule("stroke 1 if " + "[".repeat(10) + "nots=1", 22, 0);
    }
}

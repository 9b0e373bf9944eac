/** Terms II and promises 2 to 8, sentence by sentence: the TAPE, TEXTS, FAULTS, what is in force, SUMS, what counts. */
public final class TextsTest extends Checks {
    private static final String[] KINDS = {"brick", "steel", "hut"};
    private static final String[] STAGES = {"base", "shell", "fit"};
    private static final String[] MATERIALS = {"bricks", "timber", "steel", "coal", "kits"};

    private static void good(String text) {
        fault(text, NONE);
    }

    private static void fault(String text, int place) {
        WarHouses x = new WarHouses();
        told(x, "act of '" + text + "'", law(x, text, 0, 0), place == NONE ? 0 : -6);
        due("fault of '" + text + "'", x.fault(), place);
        due("bytes behind '" + text + "'", x.count(9), 0);
        due("ACTS behind '" + text + "'", x.count(0), place == NONE ? 1 : 0);
    }

    /** FAULT at the TEXT's first "!" (which is then left out) or, without one, at its end. */
    private static void faultAtMark(String text) {
        int place = text.indexOf('!');
        fault(text.replace("!", ""), place < 0 ? text.length() : place);
    }

    // ------------------------------------------------------------ the TAPE

    private static void tape() {
        at("promise 2: Twenty bytes come behind the TAPE, four of each number, the highest first");
        WarHouses x = new WarHouses();
        // "huts", " 123", "4;sq", "uat ", "5678"
        due("feed", x.feed(0x68757473, 0x20313233, 0x343b7371, 0x75617420, 0x35363738), 20);
        x.act(0, 0);
        due("huts", x.counts(3, 0, 0), 1234);
        due("squat", x.counts(4, 0, 0), 5678);
        at("promise 2: behind the TAPE (what end() left of it)");
        write(x, "huts 1xyz");
        due("end", x.end(6), 6);
        due("feed", x.feed(0x32333b73, 0x71756174, 0x20393920, 0x20202020, 0x20202020), 26);
        x.act(0, 0);
        due("huts", x.counts(3, 0, 0), 123);
        due("squat", x.counts(4, 0, 0), 99);
        at("promise 2: NONE, if there would be more than 400");
        WarHouses y = new WarHouses();
        write(y, times("huts 12;", 10) + "points 1" + times(" + 1", 49));
        due("bytes", y.count(9), 284);
        for (int i = 0; i < 5; i++) {
            due("feed", y.feed(0x20202020, 0x20202020, 0x20202020, 0x20202020, 0x20202020), 304 + 20 * i);
        }
        due("feed to 404", y.feed(0, 0, 0, 0, 0), NONE);
        due("bytes", y.count(9), 384);
        due("act: no byte of it came", y.act(0, 0), 0);
        due("feed behind it", y.feed(0, 0, 0, 0, 0), 20);
        WarHouses z = new WarHouses();
        for (int i = 1; i <= 19; i++) {
            due("feed", z.feed(0, 0, 0, 0, 0), 20 * i);
        }
        due("feed to just 400", z.feed(0, 0, 0, 0, 0), 400);
        due("feed to 420", z.feed(0, 0, 0, 0, 0), NONE);
        z.end(381);
        due("feed to 401", z.feed(0, 0, 0, 0, 0), NONE);
        z.end(380);
        due("feed to just 400", z.feed(0, 0, 0, 0, 0), 400);
        at("promise 3: The TAPE has its first n bytes alone");
        WarHouses w = new WarHouses();
        write(w, "huts 12345");
        due("end of one more than it has", w.end(11), NONE);
        due("bytes", w.count(9), 10);
        due("end below 0", w.end(-1), NONE);
        due("bytes", w.count(9), 10);
        due("end of all", w.end(10), 10);
        due("end", w.end(7), 7);
        due("end of what is gone", w.end(8), NONE);
        w.act(0, 0);
        due("huts", w.counts(3, 0, 0), 12);
        due("end of an empty TAPE", w.end(0), 0);
        due("end of an empty TAPE", w.end(1), NONE);
        write(w, "huts 5");
        due("end of none", w.end(0), 0);
        due("act of no bytes", w.act(0, 0), -6);
    }

    // ------------------------------------------------------------ act and fault

    private static void actsAndTape() {
        at("promise 4: its number; Terms II: 24 at most");
        WarHouses x = new WarHouses();
        for (int i = 0; i < 24; i++) {
            told(x, "act", law(x, "huts " + i, 0, 0), i);
            due("huts", x.counts(3, 0, 0), i);
            due("bytes", x.count(9), 0);
        }
        told(x, "act without room", law(x, "huts 24", 0, 0), -5);
        due("ACTS", x.count(0), 24);
        due("huts", x.counts(3, 0, 0), 23);
        at("promise 4: -1; -5 (both ahead of reading it)");
        WarHouses y = new WarHouses();
        law(y, "huts x", 0, 0);
        due("fault", y.fault(), 5);
        write(y, "huts");
        told(y, "act", y.act(260, 0), -1);
        due("FAULT of the latest that was read", y.fault(), 5);
        due("bytes", y.count(9), 0);
        law(y, "huts 1", 0, 0);
        due("fault", y.fault(), NONE);
        write(y, "huts");
        told(y, "act", y.act(0, -1), -1);
        due("FAULT of the latest that was read", y.fault(), NONE);
        for (int i = 1; i < 24; i++) {
            law(y, "huts 1", 0, 0);
        }
        told(y, "act", law(y, "huts", 0, 0), -5);
        due("FAULT of the latest that was read", y.fault(), NONE);
        due("bytes", y.count(9), 0);
        at("promise 4: -6 (blanks alone: FAULT at the end)");
        fault("", 0);
        fault(" ", 1);
        fault(times(" ", 20), 20);
        fault(times(" ", 400), 400);
        at("promise 4: refused by -6 there is no ACT, nor what was read of it");
        WarHouses z = new WarHouses();
        told(z, "act", law(z, "points 1;huts 7;huts", 0, 0), -6);
        due("huts", z.counts(3, 0, 0), NONE);
        due("ACTS", z.count(0), 0);
        due("force", z.force(0, 0, 0, 0), NONE);
        told(z, "act", law(z, "huts 3", 0, 0), 0);
        due("CLAUSE 0", z.force(0, 0, 0, 0), 1);
        due("no CLAUSE 1", z.force(0, 1, 0, 0), NONE);
        due("huts", z.counts(3, 0, 0), 3);
        at("promise 4: the TAPE, which is empty then");
        told(z, "act of an empty TAPE", z.act(0, 0), -6);
        due("fault", z.fault(), 0);
        at("promise 5: FAULT of the latest act() that read a TEXT; NONE without");
        WarHouses w = new WarHouses();
        due("fault", w.fault(), NONE);
        write(w, "hats");
        due("fault of a TEXT that was not read yet", w.fault(), NONE);
        w.act(-1, 0);
        due("fault of a TEXT that was not read", w.fault(), NONE);
        law(w, "huts 1;hats", 0, 0);
        due("fault", w.fault(), 7);
        law(w, "huts 1;;", 0, 0);
        due("fault of the latest", w.fault(), 7);
        law(w, "huts 1; ", 0, 0);
        due("fault of the latest", w.fault(), 8);
        w.image(0);
        w.end(0);
        due("fault", w.fault(), 8);
        law(w, "huts 1", 0, 0);
        due("fault behind a good one", w.fault(), NONE);
    }

    private static void tokens() {
        at("Terms II: TOKENS: longest rows of letters, of digits, single other bytes, any blanks between");
        good("huts10if[1]=1and(2>1)or not(3<2)");
        good("  huts   10   if   [  1  ]  =  1  ");
        good("huts 1;huts 2");
        good("  huts 1  ;  huts 2  ");
        good("strike0clause0");
        faultAtMark("!needbrick base bricks 1");
        faultAtMark("need !brickbase bricks 1");
        faultAtMark("huts 1 !ifrooms=1");
        faultAtMark("huts !roomsif 1=1");
        faultAtMark("huts 1 if !notrooms=1");
        faultAtMark("huts 1 !0");
        faultAtMark("huts 1 if 1 < != 2");
        faultAtMark("huts 1 if 1 = !< 2");
        faultAtMark("huts 1 !, 2");
        int[] others = {0, 9, 10, 13, 31, 33, 46, 47, 58, 64, 65, 90, 96, 123, 127, 128, 160, 255};
        for (int other : others) {
            fault("huts 1" + (char) other, other == '/' ? 7 : 6);
            fault((char) other + "huts 1", 0);
            fault("hu" + (char) other + "ts 1", 0);
            fault("huts 1" + (char) other + "1", other == '/' ? NONE : 6);
        }
        at("Terms II: a .. z");
        fault("{huts 1", 0);
        fault("`huts 1", 0);
        faultAtMark("!Huts 1");
        faultAtMark("!hutS 1");
        faultAtMark("!hutsz 1");
        faultAtMark("!zhuts 1");
        faultAtMark("!ahuts 1");
        faultAtMark("!hutsa 1");
        fault("huts{ 1", 4);
        fault("huts` 1", 4);
        fault("huts@ 1", 4);
        at("Terms II: 0 .. 9");
        fault("huts 5:", 6);
        fault("huts 5:5", 6);
        fault("huts 5/", 7);
        good("huts 5/5");
        good("huts 9090");
        faultAtMark("huts 1!a");
        faultAtMark("huts 1!z");
        at("Terms II: FAULT: the first TOKEN that can't go on there (the end's: the TEXT's length)");
        faultAtMark("huts");
        faultAtMark("huts   ");
        faultAtMark("huts 1 if 1 =   ");
        faultAtMark("huts 1   !x  ");
        faultAtMark("huts   !x");
        String full = "points 1" + times(" ", 389) + "+ 1";
        good(full);
        fault(full.substring(0, 399) + "x", 399);
        fault("points 1" + times(" ", 391) + "+", 400);
        fault("points 1" + times(" ", 391) + "1", 399);
    }

    private static void clauses() {
        at("Terms II: CLAUSE {\";\" CLAUSE}");
        good("huts 1");
        good("huts 1;squat 1");
        faultAtMark("!;huts 1");
        faultAtMark("huts 1;");
        faultAtMark("huts 1;!;huts 1");
        faultAtMark("huts 1 !huts 1");
        at("Terms II: 16 at most (FAULT at the 17th's first TOKEN)");
        good(times("huts 1;", 15) + "huts 1");
        faultAtMark(times("huts 1;", 16) + "!huts 1");
        faultAtMark(times("huts 1;", 16) + "  !huts 1");
        faultAtMark(times("huts 1;", 16) + "!;");
        faultAtMark(times("huts 1;", 16));
        faultAtMark(times("huts 1;", 16) + "   ");
        faultAtMark(times("strike 0 clause 0;", 16) + "!strike 0 clause 0");
        faultAtMark(times("huts 1;", 15) + "!hats 1;huts 1");
        WarHouses x = under(times("first hut;", 15) + "huts 8");
        due("the 16th is one", x.force(0, 15, 0, 0), 1);
        due("there is no 17th", x.force(0, 16, 0, 0), NONE);
        at("Terms II: CLAUSE: \"strike\" NUMBER \"clause\" NUMBER");
        good("strike 0 clause 0");
        faultAtMark("strike!");
        faultAtMark("strike !clause 0");
        faultAtMark("strike 0");
        faultAtMark("strike 0!;huts 1");
        faultAtMark("strike!;huts 1");
        faultAtMark("strike 0 clause!;huts 1");
        faultAtMark("strike 0 !0");
        faultAtMark("strike 0 clause !x");
        faultAtMark("strike 0 clause");
        faultAtMark("strike 0 clause 0 !if 1 = 1");
        faultAtMark("strike 0 clause 0 !+ 1");
        faultAtMark("strike ![0] clause 0");
        faultAtMark("strike !week clause 0");
        faultAtMark("strike 0 clause !week");
        at("Terms II: NUMBERS of \"strike\" to 23, of \"clause\" to 15");
        good("strike 23 clause 15");
        faultAtMark("strike !24 clause 15");
        faultAtMark("strike 23 clause !16");
        faultAtMark("strike !10000 clause 0");
        faultAtMark("strike !99999999999999999999 clause 0");
        good("strike 000000000000000000023 clause 00015");
        at("Terms II: HEAD");
        String[] sums = {"points", "rent", "huts", "squat"};
        for (String head : sums) {
            good(head + " 1");
            good(head + " 1 if 1 = 1");
            faultAtMark(head);
            faultAtMark(head + " !if 1 = 1");
            faultAtMark(head + " !brick 1");
        }
        faultAtMark("!if 1 = 1");
        faultAtMark("!1");
        faultAtMark("!clause 0");
        faultAtMark("!brick");
        faultAtMark("!rooms");
        at("Terms II: HEAD: \"need\" KIND STAGE MATERIAL SUM | \"work\" KIND STAGE SUM");
        for (String kind : KINDS) {
            good("licence " + kind + " 1");
            good("first " + kind);
            good("first " + kind + " if 1 = 1");
            faultAtMark("first " + kind + " !1");
            faultAtMark("licence " + kind);
            for (String stage : STAGES) {
                good("work " + kind + " " + stage + " 1");
                faultAtMark("work " + kind + " " + stage);
                faultAtMark("work " + kind + " " + stage + " !kits 1");
                faultAtMark("need " + kind + " " + stage + " !1");
                for (String material : MATERIALS) {
                    good("need " + kind + " " + stage + " " + material + " 1 if 1 = 1");
                    faultAtMark("need " + kind + " " + stage + " " + material);
                }
            }
        }
        String[] heads = {"need", "need brick", "need brick base", "need brick base bricks", "work", "work hut", "work hut fit",
            "points", "licence", "licence steel", "rent", "huts", "squat", "first"};
        for (String head : heads) {
            faultAtMark(head);
            faultAtMark(head + "!;huts 1");
            faultAtMark(head + " !if 1 = 1");
            faultAtMark(head + " !strike 0 clause 0");
        }
        faultAtMark("first !bricks");
        faultAtMark("first !huts");
        faultAtMark("licence !bricks 1");
        faultAtMark("work !bricks base 1");
        faultAtMark("work brick !bricks 1");
        faultAtMark("work brick !brick 1");
        faultAtMark("need brick !bricks 1");
        faultAtMark("need brick !1");
        faultAtMark("need brick !timber base 1");
        faultAtMark("work brick !1");
        faultAtMark("work !1");
        faultAtMark("licence !base 1");
        faultAtMark("need !timber base bricks 1");
        faultAtMark("need brick base !brick 1");
        faultAtMark("need brick base !huts 1");
        faultAtMark("need !base brick bricks 1");
    }

    private static void grammar() {
        at("Terms II: TEST: BOTH {\"or\" BOTH}; BOTH: PLAIN {\"and\" PLAIN}");
        good("huts 1 if 1=1 or 1=1 and 1=1 and 1=1 or 1=1");
        faultAtMark("huts 1 if");
        faultAtMark("huts 1 if !or 1=1");
        faultAtMark("huts 1 if !and 1=1");
        faultAtMark("huts 1 if 1=1 or");
        faultAtMark("huts 1 if 1=1 or !or 1=1");
        faultAtMark("huts 1 if 1=1 and");
        faultAtMark("huts 1 if 1=1 and !or 1=1");
        faultAtMark("huts 1 if 1=1 !not 1=1");
        faultAtMark("huts 1 if 1=1 !if 1=1");
        faultAtMark("huts 1 if 1=1 !1");
        at("Terms II: PLAIN: \"not\" PLAIN | \"(\" TEST \")\" | SUM (\"<\" | \">\" | \"=\") SUM");
        good("huts 1 if not not not (not 1=1)");
        good("huts 1 if not(1=1 or 1=1)");
        good("huts 1 if 1+1<[2*2]");
        good("huts 1 if " + times("not ", 95) + "1=1");
        faultAtMark("huts 1 if not");
        faultAtMark("huts 1 if not !and 1=1");
        faultAtMark("huts 1 if (");
        faultAtMark("huts 1 if (!)");
        faultAtMark("huts 1 if (1=1");
        faultAtMark("huts 1 if (1=1!]");
        faultAtMark("huts 1 if (1=1)!)");
        faultAtMark("huts 1 if (1!)");
        faultAtMark("huts 1 if (1!)=1");
        faultAtMark("huts 1 if (1=1)!=1");
        faultAtMark("huts 1 if (1=1)!+1");
        faultAtMark("huts 1 if 1");
        faultAtMark("huts 1 if 1!;huts 1");
        faultAtMark("huts 1 if 1<");
        faultAtMark("huts 1 if 1<2!<3");
        faultAtMark("huts 1 if 1!#2");
        faultAtMark("huts 1 if !=1");
        faultAtMark("huts 1 if 1=!(1)");
        faultAtMark("huts 1 if 1=!not 1");
        at("Terms II: SUM: TERM {(\"+\" | \"-\") TERM}; TERM: PART {(\"*\" | \"/\") PART}");
        good("huts 1+2-3*4/5");
        faultAtMark("huts !+1");
        faultAtMark("huts !-1");
        faultAtMark("huts !*1");
        faultAtMark("huts 1+");
        faultAtMark("huts 1-!-1");
        faultAtMark("huts 1*!/1");
        faultAtMark("huts 1/");
        faultAtMark("huts 1!<2");
        at("Terms II: PART");
        String[] words = {"rooms", "persons", "children", "ill", "waited", "have", "week"};
        for (String word : words) {
            good("huts " + word);
            good("huts 1 if " + word + " = " + word);
            faultAtMark("huts " + word + " !" + word);
        }
        good("huts [1]");
        good("huts least[1,2]");
        good("huts most[1,2]");
        good("huts least [ 1 , most [ 2 , 3 ] ]");
        faultAtMark("huts !(1)");
        faultAtMark("huts [");
        faultAtMark("huts [!]");
        faultAtMark("huts [1!)");
        faultAtMark("huts [1!,2]");
        faultAtMark("huts least");
        faultAtMark("huts least !1");
        faultAtMark("huts least!(1,2)");
        faultAtMark("huts least[1!]");
        faultAtMark("huts most[1!;2]");
        faultAtMark("huts most[1,!]");
        faultAtMark("huts most[1,2!,3]");
        faultAtMark("huts most[1,2!)");
        faultAtMark("huts !brick");
        faultAtMark("huts !room");
        faultAtMark("huts !clause");
    }

    private static void limits() {
        at("Terms II: NUMBERS to 10,000");
        good("huts 10000");
        good("huts 000010000");
        faultAtMark("huts !10001");
        faultAtMark("huts !99999");
        faultAtMark("huts !2147483648");
        faultAtMark("huts !4294967296");
        faultAtMark("huts !18446744073709551616");
        faultAtMark("huts 1 if 1 = !10001");
        good("huts " + times("0", 300) + "1");
        at("Terms II: 60 NUMBERS and words that are PARTS by themselves; FAULT at the 61st");
        good("huts 1" + times("+1", 59));
        faultAtMark("huts 1" + times("+1", 59) + "+!1");
        faultAtMark("huts 1" + times("+1", 59) + "+!ill");
        good("huts ill" + times("*ill", 59));
        faultAtMark("huts ill" + times("*ill", 59) + "*!1");
        good("huts 1" + times("+1", 29) + " if 1" + times("+1", 28) + "<1");
        faultAtMark("huts 1" + times("+1", 29) + " if 1" + times("+1", 29) + "<!1");
        good("huts 1" + times("+1", 29) + ";rent 1" + times("+ill", 29));
        faultAtMark("huts 1" + times("+1", 29) + ";rent 1" + times("+ill", 29) + ";huts !1");
        faultAtMark("huts 1" + times("+1", 58) + "+least[1,!1]");
        good("huts 1" + times("+1", 57) + "+least[1,1]");
        at("Terms II: .. at most in a TEXT");
        WarHouses x = under("huts 1" + times("+1", 59));
        due("another TEXT has 60 more", law(x, "squat 1" + times("+1", 59), 0, 0), 1);
        due("huts", x.counts(3, 0, 0), 60);
        due("squat", x.counts(4, 0, 0), 60);
        law(x, "huts 1" + times("+1", 60), 0, 0);
        due("fault", x.fault(), 6 + 2 * 60 - 1);
        due("and one behind a FAULT", law(x, "squat 1" + times("+1", 59), 0, 0), 2);
        at("Terms II: 8 brackets of all kinds within one another (FAULT at the 9th's first TOKEN)");
        good("huts " + times("[", 8) + "1" + times("]", 8));
        faultAtMark("huts " + times("[", 8) + "![1" + times("]", 9));
        faultAtMark("huts " + times("[", 8) + "!" + times("]", 8));
        good("huts 1 if " + times("(", 8) + "1=1" + times(")", 8));
        faultAtMark("huts 1 if " + times("(", 8) + "!(1=1" + times(")", 9));
        good("huts 1 if " + times("(", 4) + times("[", 4) + "1" + times("]", 4) + "=1" + times(")", 4));
        faultAtMark("huts 1 if " + times("(", 4) + times("[", 4) + "![1" + times("]", 5) + "=1" + times(")", 4));
        faultAtMark("huts 1 if " + times("(", 8) + "![1]=1" + times(")", 8));
        faultAtMark("huts 1 if " + times("(", 8) + "1=![1]" + times(")", 8));
        faultAtMark("huts 1 if " + times("not(", 8) + "not !(1=1" + times(")", 9));
        good("huts 1 if " + times("not(", 8) + "not 1=1" + times(")", 8));
        at("Terms II: of \"least\", \"most\" that word");
        good("huts " + times("least[1,", 8) + "1" + times("]", 8));
        faultAtMark("huts " + times("least[1,", 8) + "!least[1,1]" + times("]", 8));
        good("huts " + times("most[", 8) + "1" + times(",1]", 8));
        faultAtMark("huts " + times("most[", 8) + "!most[1,1]" + times(",1]", 8));
        faultAtMark("huts " + times("[", 8) + "!most[1,1]" + times("]", 8));
        faultAtMark("huts " + times("most[", 8) + "![1]" + times(",1]", 8));
        faultAtMark("huts 1 if " + times("(", 8) + "!least[1,1]=1" + times(")", 8));
        at("Terms II: within one another");
        good("huts " + times("[", 8) + "1" + times("]", 8) + "+" + times("[", 8) + "1" + times("]", 8));
        good("huts 1 if " + times("(1=1)or", 20) + "(1=1)");
        good("huts " + times("[", 8) + "1" + times("]", 8) + " if " + times("(", 8) + "1=1" + times(")", 8));
        good("huts least[" + times("[", 7) + "1" + times("]", 7) + "," + times("[", 7) + "1" + times("]", 7) + "]");
        faultAtMark("huts least[" + times("[", 7) + "1" + times("]", 7) + "," + times("[", 7) + "![1" + times("]", 9));
        at("Terms II: a TAPE of at most 400 bytes");
        String longest = "huts 1" + times(" + 1", 59);
        longest += times(" ", 400 - longest.length());
        good(longest);
    }

    // ------------------------------------------------------------ in force

    private static void inForce() {
        at("Terms II: IN FORCE: of ACTS known by k, from w or ahead of it on");
        WarHouses x = new WarHouses();
        law(x, "huts 1", 10, 20);
        due("from", x.force(0, 0, 9, 259), 0);
        due("from", x.force(0, 0, 10, 259), 1);
        due("known", x.force(0, 0, 259, 19), 0);
        due("known", x.force(0, 0, 259, 20), 1);
        due("both at once", x.force(0, 0, 10, 20), 1);
        law(x, "huts 2", 259, 259);
        due("the last WEEK", x.force(1, 0, 259, 259), 1);
        due("ahead of it", x.force(1, 0, 258, 259), 0);
        due("ahead of it", x.force(1, 0, 259, 258), 0);
        at("Terms II: all CLAUSES that no \"strike\" in force of an ACT told later strikes");
        WarHouses y = under("huts 1;squat 2;strike 0 clause 0");
        due("not by its own ACT", y.force(0, 0, 0, 0), 1);
        law(y, "strike 1 clause 1;huts 2;strike 1 clause 1", 0, 0);
        due("not by its own ACT", y.force(1, 1, 0, 0), 1);
        law(y, "strike 0 clause 0;strike 1 clause 1", 5, 7);
        due("ahead of the \"strike\"'s WEEK", y.force(0, 0, 4, 7), 1);
        due("from then on", y.force(0, 0, 5, 7), 0);
        due("not known", y.force(0, 0, 5, 6), 1);
        due("another CLAUSE of another ACT", y.force(1, 1, 5, 7), 0);
        due("others stand", y.force(0, 1, 5, 7), 1);
        due("others stand", y.force(1, 0, 5, 7), 1);
        due("huts", y.counts(3, 5, 7), NONE);
        due("huts", y.counts(3, 4, 7), 2);
        due("huts", y.counts(3, 5, 6), 2);
        at("Terms II: a \"strike\" that was struck strikes nothing");
        law(y, "strike 2 clause 0", 9, 7);
        due("struck again", y.force(2, 0, 9, 7), 0);
        due("so it stands again", y.force(0, 0, 9, 7), 1);
        due("and ahead of it not", y.force(0, 0, 8, 7), 0);
        due("the other strike stands", y.force(1, 1, 9, 7), 0);
        law(y, "strike 3 clause 0", 12, 7);
        due("and struck once more", y.force(0, 0, 12, 7), 0);
        due("in between", y.force(0, 0, 11, 7), 1);
        at("Terms II: of those told ahead of it");
        WarHouses z = under("strike 1 clause 0;strike 23 clause 15;strike 0 clause 3;huts 9");
        law(z, "huts 4;strike 0 clause 9;strike 0 clause 15", 0, 0);
        due("told behind the \"strike\"", z.force(1, 0, 0, 0), 1);
        due("in its own ACT", z.force(0, 3, 0, 0), 1);
        due("huts", z.counts(3, 0, 0), 4);
        due("of a CLAUSE that isn't there", z.force(0, 9, 0, 0), NONE);
        at("Terms II: ACT a's CLAUSE b, at the most");
        WarHouses w = new WarHouses();
        for (int i = 0; i < 23; i++) {
            law(w, times("first hut;", 15) + "huts " + i, 0, 0);
        }
        due("stands", w.force(22, 15, 0, 0), 1);
        due("huts", w.counts(3, 0, 0), 22);
        law(w, "strike 22 clause 15;strike 0 clause 0", 0, 0);
        due("struck", w.force(22, 15, 0, 0), 0);
        due("struck", w.force(0, 0, 0, 0), 0);
        due("its neighbours stand", w.force(22, 14, 0, 0), 1);
        due("its neighbours stand", w.force(21, 15, 0, 0), 1);
        due("its neighbours stand", w.force(0, 1, 0, 0), 1);
        due("its neighbours stand", w.force(1, 0, 0, 0), 1);
        due("huts", w.counts(3, 0, 0), 21);
        at("promise 6: NONE without");
        due("no ACT", w.force(24, 0, 0, 0), NONE);
        due("no CLAUSE", w.force(22, 16, 0, 0), NONE);
        due("no CLAUSE of this ACT", w.force(23, 2, 0, 0), NONE);
        due("not in force is 0", w.force(22, 15, 0, 0), 0);
    }

    // ------------------------------------------------------------ SUMS

    /** POINTS, that may be below 0, of an ENTRY with persons 5, children 3, ill 1, have 2, on the list from 4 on. */
    private static void points(String text, int week, int value) {
        WarHouses x = under("points " + text);
        x.entry(0, 4, 5, 3, 2, 1, 0);
        due("points " + text + " in " + week, x.points(0, week, 0), value);
    }

    private static void huts(String text, int week, int value) {
        due("huts " + text + " in " + week, under("huts " + text).counts(3, week, 0), value);
    }

    private static void sums() {
        at("Terms II: rooms, persons, children, ill, waited, have, week (what isn't told of there: 0)");
        points("rooms", 9, 0);
        points("persons", 9, 5);
        points("children", 9, 3);
        points("ill", 9, 1);
        points("waited", 9, 5);
        points("have", 9, 2);
        points("week", 9, 9);
        points("week", 259, 259);
        points("waited", 4, 0);
        points("waited", 3, 0);
        points("waited", 5, 1);
        String[] without = {"rooms", "persons", "children", "ill", "waited", "have"};
        for (String word : without) {
            huts(word + " + 7", 9, 7);
            WarHouses x = under("licence hut " + word + ";squat " + word + ";first hut if " + word + " = 0;"
                + "need hut base kits " + word + ";work hut fit " + word);
            due("licence " + word, x.counts(2, 9, 9), 0);
            due("squat " + word, x.counts(4, 9, 9), 0);
            due("first by " + word, x.counts(5, 9, 9), 2);
            due("need " + word, x.need(2, 0, 4, 6, 9, 9), word.equals("rooms") ? 6 : 0);
            due("work " + word, x.need(2, 2, 5, 6, 9, 9), word.equals("rooms") ? 6 : 0);
        }
        WarHouses y = under("licence hut week;squat week;first hut if week = 9;need hut base kits week;work hut fit week");
        due("licence week", y.counts(2, 9, 0), 9);
        due("squat week", y.counts(4, 9, 0), 9);
        due("first by week", y.counts(5, 9, 0), 2);
        due("first by week", y.counts(5, 8, 0), NONE);
        due("need week", y.need(2, 0, 4, 6, 9, 0), 9);
        due("work week", y.need(2, 2, 5, 6, 9, 0), 9);
        at("Terms II: beyond 1,000,000,000 either way is BROKEN");
        points("10000 * 10000 * 10", 0, MUCH);
        points("10000 * 10000 * 10 + 1", 0, 0);
        points("10000 * 10000 * 10 + 0", 0, MUCH);
        points("1 + 10000 * 10000 * 10", 0, 0);
        points("10000 * [10000 * 10] - 1", 0, MUCH - 1);
        points("10000 * 10000 * 10 - 1 + 1", 0, MUCH);
        points("10000 * 10000 * 10 + 1 - 1", 0, 0);
        points("0 - 10000 * 10000 * 10", 0, -MUCH);
        points("0 - 10000 * 10000 * 10 - 1", 0, 0);
        points("0 - 10000 * 10000 * 10 - 1 + 1", 0, 0);
        points("10000 * 10000 * 11", 0, 0);
        points("[0 - 10000] * 10000 * 10", 0, -MUCH);
        points("[0 - 10000] * 10000 * 11", 0, 0);
        points("[10000 * 10000 * 10] * [10000 * 10000 * 10]", 0, 0);
        points("[10000 * 10000 * 10] * [10000 * 10000 * 10] / [10000 * 10000 * 10]", 0, 0);
        points("7 + 0 * [10000 * 10000 * 11]", 0, 0);
        at("Terms II: divided by 0 is BROKEN");
        points("5 / 0", 0, 0);
        points("0 / 0", 0, 0);
        points("7 + 5 / waited", 4, 0);
        points("7 + 5 / waited", 5, 12);
        points("7 + 0 * [5 / 0]", 0, 0);
        at("Terms II: / is cut towards 0");
        points("7 / 2", 0, 3);
        points("[0 - 7] / 2", 0, -3);
        points("7 / [0 - 2]", 0, -3);
        points("[0 - 7] / [0 - 2]", 0, 3);
        points("1 / 2", 0, 0);
        points("[0 - 1] / 2", 0, 0);
        points("6 / 2", 0, 3);
        points("0 / 5", 0, 0);
        at("Terms II: both sides of a sign, both of \"least\", \"most\" are worked out first");
        points("5 + 1 / 0", 0, 0);
        points("1 / 0 + 5", 0, 0);
        points("0 * [1 / 0]", 0, 0);
        points("9 + least[1, 1 / 0]", 0, 0);
        points("9 + least[1 / 0, 1]", 0, 0);
        points("9 + most[2, 1 / 0]", 0, 0);
        points("9 + most[1 / 0, 2]", 0, 0);
        points("9 + most[2, 10000 * 10000 * 10 + 1]", 0, 0);
        points("9 + least[2, 10000 * 10000 * 10 + 1]", 0, 0);
        points("9 if 1 / 0 < 5", 0, 0);
        points("9 if 5 > 1 / 0", 0, 0);
        points("9 if 5 = 1 / 0", 0, 0);
        points("9 if not 5 = 1 / 0", 0, 0);
        at("Terms II: SUMS, from left to right, * and / ahead of + and -");
        points("10 - 3 - 2", 0, 5);
        points("10 - [3 - 2]", 0, 9);
        points("100 / 5 / 2", 0, 10);
        points("100 / [5 / 2]", 0, 50);
        points("2 + 3 * 4", 0, 14);
        points("2 * 3 + 4", 0, 10);
        points("20 - 12 / 4", 0, 17);
        points("[2 + 3] * 4", 0, 20);
        points("7 / 2 * 2", 0, 6);
        points("2 * 7 / 2", 0, 7);
        points("least[3, 3]", 0, 3);
        points("least[2, 3] + least[3, 2]", 0, 4);
        points("most[2, 3] + most[3, 2]", 0, 6);
        points("most[0 - 2, 0 - 3]", 0, -2);
        points("least[0 - 2, 0 - 3]", 0, -3);
        points("0007", 0, 7);
        points("10000", 0, 10000);
        points("1 + " + times("[", 8) + "2" + times("]", 8), 0, 3);
        points(times("1 + 1 * least[9 + 1 * 1, ", 7) + "5 + 1" + times("]", 7), 0, 11);
    }

    private static void tests() {
        at("Terms II: a CLAUSE HOLDS, if its \"if\" (if it has one) is so");
        int[][] sides = {{4, 1, 0, 0}, {5, 0, 0, 1}, {6, 0, 1, 0}};
        for (int[] s : sides) {
            huts("9 if week < 5", s[0], s[1] == 1 ? 9 : NONE);
            huts("9 if week > 5", s[0], s[2] == 1 ? 9 : NONE);
            huts("9 if week = 5", s[0], s[3] == 1 ? 9 : NONE);
            huts("9 if not week < 5", s[0], s[1] == 1 ? NONE : 9);
            huts("9 if not not week < 5", s[0], s[1] == 1 ? 9 : NONE);
            huts("9 if not (week < 5 or week > 5)", s[0], s[3] == 1 ? 9 : NONE);
        }
        huts("9 if 0 - 5 < 0 - 4", 0, 9);
        huts("9 if 0 - 4 < 0 - 5", 0, NONE);
        String[] so = {"1=0", "1=1"};
        for (int i = 0; i < 8; i++) {
            boolean a = (i & 1) != 0;
            boolean b = (i & 2) != 0;
            boolean c = (i & 4) != 0;
            String x = so[a ? 1 : 0];
            String y = so[b ? 1 : 0];
            String z = so[c ? 1 : 0];
            huts("9 if " + x + " or " + y + " and " + z, 0, a || b && c ? 9 : NONE);
            huts("9 if " + x + " and " + y + " or " + z, 0, a && b || c ? 9 : NONE);
            huts("9 if (" + x + " or " + y + ") and " + z, 0, (a || b) && c ? 9 : NONE);
            huts("9 if " + x + " and (" + y + " or " + z + ")", 0, a && (b || c) ? 9 : NONE);
            huts("9 if not " + x + " and " + y + " or not " + z, 0, !a && b || !c ? 9 : NONE);
            huts("9 if " + x + " or " + y + " or " + z, 0, a || b || c ? 9 : NONE);
            huts("9 if " + x + " and " + y + " and " + z, 0, a && b && c ? 9 : NONE);
        }
        at("Terms II: \"or\", \"and\" ask what stands behind only if it can still matter");
        huts("9 if 1=1 or 1/0=1", 0, 9);
        huts("9 if 1=0 or 1/0=1", 0, NONE);
        huts("9 if 1/0=1 or 1=1", 0, NONE);
        huts("9 if 1=0 and 1/0=1 or 1=1", 0, 9);
        huts("9 if 1=1 and 1/0=1 or 1=1", 0, NONE);
        huts("9 if 1/0=1 and 1=0 or 1=1", 0, NONE);
        huts("9 if not (1=1 or 1/0=1) or 2=2", 0, 9);
        huts("9 if not (1=0 and 1/0=1)", 0, 9);
        huts("9 if not (1=1 and 1/0=1)", 0, NONE);
        huts("9 if 1=1 or 1/0=1 and 1/0=1", 0, 9);
        huts("9 if 1=0 and 1/0=1 and 1/0=1 or 1=1 or 1/0=1", 0, 9);
        huts("9 if (1=1 or 1/0=1) and 1/0=1", 0, NONE);
        huts("9 if 1=0 or 1=0 or 1=1 or 1/0=1", 0, 9);
        at("Terms II: as many as a TEXT has room for");
        huts("9 if 1=1" + times(" and 1=1", 28), 0, 9);
        huts("9 if 1=0" + times(" or 1=0", 27) + " or 1=1", 0, 9);
        huts("9 if 1=1" + times(" and 1=1", 27) + " and 1=0", 0, NONE);
        huts("9 if 1=0" + times(" or 1=0", 28), 0, NONE);
        huts("9 if " + times("not ", 90) + "1=1", 0, 9);
        huts("9 if " + times("not ", 91) + "1=1", 0, NONE);
        at("Terms II: neither is BROKEN, nor its SUM");
        huts("1/0 if 1=1", 0, NONE);
        huts("1/0", 0, NONE);
        huts("9 if 10000*10000*11 > 1", 0, NONE);
        huts("9 if 10000*10000*10 > 1", 0, 9);
        due("one that doesn't hold leaves the one ahead of it", under("huts 3;huts 1/0").counts(3, 0, 0), 3);
        due("one that doesn't hold leaves the one ahead of it", under("huts 3;huts 4 if 1/0=1").counts(3, 0, 0), 3);
        due("one that doesn't hold leaves the one ahead of it", under("huts 3;huts 4 if 1=0").counts(3, 0, 0), 3);
        due("one that is BROKEN adds nothing", pointsOf("points 3;points 1/0;points 4"), 7);
    }

    private static int pointsOf(String text) {
        WarHouses x = under(text);
        x.entry(0, 0, 1, 0, 0, 0, 0);
        return x.points(0, 0, 0);
    }

    // ------------------------------------------------------------ what counts

    private static void lastCounts() {
        at("Terms II: the last that HOLDS counts (ACTS as told, CLAUSES in order)");
        String[] heads = {"licence brick", "licence steel", "licence hut", "huts", "squat"};
        for (int i = 0; i < heads.length; i++) {
            String h = heads[i];
            WarHouses x = under(h + " 3;" + h + " 4;" + h + " 5 if week = 9");
            due(h + ", CLAUSES in order", x.counts(i, 0, 0), 4);
            due(h + ", the last", x.counts(i, 9, 0), 5);
            law(x, h + " 1", 20, 0);
            law(x, h + " 2", 10, 0);
            due(h + ", ACTS as told, not as they are in force", x.counts(i, 20, 0), 2);
            due(h + ", ahead of both", x.counts(i, 8, 0), 4);
            law(x, "strike 2 clause 0", 0, 5);
            due(h + ", struck", x.counts(i, 20, 5), 1);
            due(h + ", struck", x.counts(i, 10, 5), 4);
            due(h + ", not known", x.counts(i, 20, 4), 2);
            for (int other = 0; other < 6; other++) {
                due("counts " + other + " without", under(h + " 3").counts(other, 0, 0), other == i ? 3 : NONE);
            }
        }
        at("Terms II: \"first\" of all KINDS together");
        WarHouses f = under("first hut;first brick if week > 4;first steel if week > 6;first hut if week > 8");
        due("first", f.counts(5, 4, 0), 2);
        due("first", f.counts(5, 5, 0), 0);
        due("first", f.counts(5, 7, 0), 1);
        due("first", f.counts(5, 9, 0), 2);
        law(f, "strike 0 clause 3;strike 0 clause 2", 9, 0);
        due("first", f.counts(5, 9, 0), 0);
        at("Terms II: of one KIND, STAGE, MATERIAL; promise 8: \"need\", or \"work\" (5)");
        WarHouses all = new WarHouses();
        for (int k = 0; k < 3; k++) {
            StringBuilder t = new StringBuilder();
            for (int s = 0; s < 3; s++) {
                for (int m = 0; m < 5; m++) {
                    t.append("need ").append(KINDS[k]).append(' ').append(STAGES[s]).append(' ').append(MATERIALS[m])
                        .append(' ').append(valueOf(k, s, m)).append(';');
                }
            }
            String[] parts = {t.substring(0, t.indexOf("need " + KINDS[k] + " shell")),
                t.substring(t.indexOf("need " + KINDS[k] + " shell"))};
            for (String part : parts) {
                holds("needs", law(all, part.substring(0, part.length() - 1), 0, 0) >= 0);
            }
            t.setLength(0);
            for (int s = 0; s < 3; s++) {
                t.append(s == 0 ? "" : ";").append("work ").append(KINDS[k]).append(' ').append(STAGES[s]).append(' ')
                    .append(valueOf(k, s, 5));
            }
            holds("works", law(all, t.toString(), 0, 0) >= 0);
        }
        for (int i = 0; i < 54; i++) {
            due("need " + i, all.need(i / 18, i / 6 % 3, i % 6, 1, 0, 0), valueOf(i / 18, i / 6 % 3, i % 6));
        }
        at("Terms II: each HEAD counts by itself");
        WarHouses h = under("work brick base 1;need hut fit kits 2;work hut fit 3;points 4;licence brick 5;licence steel 6;"
            + "licence hut 7;rent 8;huts 9;squat 10;first hut;strike 9 clause 9");
        h.plot(0, 1, 1, 0);
        h.start(0, 0, 0);
        h.entry(0, 0, 1, 0, 0, 0, 0);
        due("need", h.need(2, 2, 4, 1, 0, 0), 2);
        due("work", h.need(2, 2, 5, 1, 0, 0), 3);
        due("work", h.need(0, 0, 5, 1, 0, 0), 1);
        due("points", h.points(0, 0, 0), 4);
        due("rent", h.rent(0, 0, 0), 8);
        int[] values = {5, 6, 7, 9, 10, 2};
        for (int i = 0; i < values.length; i++) {
            due("counts", h.counts(i, 0, 0), values[i]);
        }
        at("promise 8: for so many rooms (1 .. 6)");
        WarHouses r = under("need steel fit coal rooms * 10;work steel fit rooms;work steel fit 99 if rooms = 6");
        for (int rooms = 1; rooms <= 6; rooms++) {
            due("need", r.need(1, 2, 3, rooms, 0, 0), rooms * 10);
            due("work", r.need(1, 2, 5, rooms, 0, 0), rooms == 6 ? 99 : rooms);
        }
        due("without rooms and beyond", r.need(1, 2, 3, 0, 0, 0), NONE);
        due("without rooms and beyond", r.need(1, 2, 3, 7, 0, 0), NONE);
        at("promise 8: 0 without");
        due("need", r.need(1, 2, 2, 1, 0, 0), 0);
        due("work", r.need(1, 1, 5, 1, 0, 0), 0);
        due("need of one that is BROKEN", under("need hut base kits 1/0").need(2, 0, 4, 1, 0, 0), 0);
    }

    private static int valueOf(int kind, int stage, int material) {
        return 100 + kind * 18 + stage * 6 + material;
    }

    private static void belowNothing() {
        at("Terms II: what comes below 0 counts as 0 of \"need\", \"work\", \"licence\", \"huts\", \"squat\"");
        WarHouses x = under("need hut base kits 9;need hut base kits week - 5;work hut base 9;work hut base week - 5;"
            + "licence hut 9;licence hut week - 5;huts 9;huts week - 5;squat 9;squat week - 5");
        int[] weeks = {4, 5, 6, 0};
        int[] values = {0, 0, 1, 0};
        for (int i = 0; i < weeks.length; i++) {
            due("need", x.need(2, 0, 4, 1, weeks[i], 0), values[i]);
            due("work", x.need(2, 0, 5, 1, weeks[i], 0), values[i]);
            due("licence", x.counts(2, weeks[i], 0), values[i]);
            due("huts", x.counts(3, weeks[i], 0), values[i]);
            due("squat", x.counts(4, weeks[i], 0), values[i]);
        }
        due("so far below", under("huts 0 - 10000 * 10000 * 10").counts(3, 0, 0), 0);
        due("so much", under("huts 10000 * 10000 * 10").counts(3, 0, 0), MUCH);
        at("Terms II: (not of \"points\", \"rent\"), which add up, all that HOLD");
        due("points", pointsOf("points 3 - 5"), -2);
        due("points", pointsOf("points 3 - 5;points 7;points 0 - 9 if 1 = 0"), 5);
        WarHouses y = under("rent 3 - 5;rent 7;rent 100 if 1 = 0;rent 1 / 0");
        law(y, "rent 20;strike 0 clause 1", 0, 9);
        y.plot(0, 0, 1, 0);
        y.start(0, 0, 0);
        due("rent", y.rent(0, 0, 0), 5);
        due("rent of two ACTS, less what was struck", y.rent(0, 0, 9), 18);
        at("promise 7: NONE without; a WEEK as known in a WEEK");
        WarHouses z = new WarHouses();
        for (int kind = 0; kind < 6; kind++) {
            due("counts", z.counts(kind, 0, 0), NONE);
        }
        law(z, "huts 5;first steel;licence brick 0", 10, 20);
        due("ahead of its WEEK", z.counts(3, 9, 20), NONE);
        due("not known", z.counts(3, 10, 19), NONE);
        due("huts", z.counts(3, 10, 20), 5);
        due("first", z.counts(5, 9, 20), NONE);
        due("first", z.counts(5, 10, 20), 1);
        due("none at all is not without", z.counts(0, 10, 20), 0);
    }

    public static void main(String[] args) {
        tape();
        actsAndTape();
        tokens();
        clauses();
        grammar();
        limits();
        inForce();
        sums();
        tests();
        lastCounts();
        belowNothing();
        finish("texts");
    }
}

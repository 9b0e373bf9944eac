/** Terms V and VI, promises 1 and 24 to 45, sentence by sentence: lists, FAMILIES, moves, rents, TARGETS, IMAGES, counts. */
public final class ListsTest extends Checks {
    private static final int STEEL = 1;
    private static final int HUT = 2;

    /** A PLOT of COUNCIL 0 that is DONE in a WEEK. */
    private static void house(WarHouses x, int kind, int rooms, int week) {
        x.start(x.plot(0, kind, rooms, 0), week, 0);
    }

    /** An ENTRY of COUNCIL 0, on the list and known from WEEK 0 on. */
    private static void listed(WarHouses x, int persons, int have) {
        x.entry(0, 0, persons, 0, have, 0, 0);
    }

    private static void marks(WarHouses x, int entry, int one, int other, int third) {
        int[] marks = {one, other, third};
        for (int m = 0; m < 3; m++) {
            if (marks[m] != NONE) {
                told(x, "mark", x.mark(entry, m, marks[m]), 0);
            }
        }
    }

    private static void nothingYet() {
        at("promise 1: No ACTS, PLOTS, ENTRIES");
        WarHouses x = new WarHouses();
        due("status ahead of any", x.status(), 0);
        due("fault", x.fault(), NONE);
        for (int what = 0; what < 10; what++) {
            due("count", x.count(what), 0);
        }
        due("no PLOT", x.lives(0, 0, 0), NONE);
        due("no PLOT", x.built(0, 0, 0, 6), NONE);
        due("no PLOT", x.under(0, 0), NONE);
        due("no PLOT", x.rent(0, 0, 0), NONE);
        due("no ENTRY", x.family(0, 0), NONE);
        due("no ENTRY", x.roof(0, 0), NONE);
        due("no ENTRY", x.points(0, 0, 0), NOTHING);
        due("no ACT", x.force(0, 0, 0, 0), NONE);
        for (int c = 0; c < 6; c++) {
            due("nobody on a list", x.order(c, 259, 259, -1), 0);
            due("nobody on a list", x.order(c, 259, 259, 0), NONE);
            due("nobody on a list", x.beside(c, 0, 0, 259), 0);
        }
        due("offer", x.offer(0), 0);
    }

    // ------------------------------------------------------------ ENTRIES, MARKS, FAMILIES

    private static void entries() {
        at("promise 24: its number; Terms V: ENTRIES 0 .. 59 (60 at most)");
        WarHouses x = new WarHouses();
        for (int i = 0; i < 60; i++) {
            told(x, "entry", x.entry(i % 6, i, 1, 0, 0, 0, i), i);
        }
        told(x, "the 61st", x.entry(0, 0, 1, 0, 0, 0, 0), -5);
        due("ENTRIES", x.count(6), 60);
        due("on a list", x.order(5, 259, 259, -1), 10);
        due("the last", x.order(5, 259, 259, 9), 59);
        at("promise 25: is told: 0; -4 it was");
        told(x, "mark", x.mark(59, 2, 9999), 0);
        told(x, "mark again", x.mark(59, 2, 9999), -4);
        told(x, "another in its place", x.mark(59, 2, 0), -4);
        told(x, "mark of 0", x.mark(59, 0, 0), 0);
        told(x, "mark again", x.mark(59, 0, 0), -4);
        told(x, "the third", x.mark(59, 1, 5), 0);
        told(x, "of another ENTRY", x.mark(58, 2, 9999), 0);
        at("Terms V: known from a WEEK on");
        due("known", x.family(59, 59), 59);
        due("not known", x.family(59, 58), NONE);
        due("known", x.points(59, 0, 59), 0);
        due("not known", x.points(59, 259, 58), NOTHING);
        due("on the list", x.order(5, 59, 59, -1), 10);
        due("not known", x.order(5, 59, 58, -1), 9);
        due("not on the list yet", x.order(5, 58, 59, -1), 9);
        WarHouses y = new WarHouses();
        told(y, "of the first and the last WEEK", y.entry(0, 259, 20, 19, 9, 1, 259), 0);
        due("family", y.family(0, 258), NONE);
        due("family", y.family(0, 259), 0);
        due("order", y.order(0, 259, 259, -1), 1);
        due("order", y.order(0, 258, 259, -1), 0);
    }

    private static void family(int[] one, int[] other, boolean same) {
        WarHouses x = new WarHouses();
        listed(x, 1, 0);
        listed(x, 1, 0);
        marks(x, 0, one[0], one[1], one[2]);
        marks(x, 1, other[0], other[1], other[2]);
        due("family", x.family(1, 0), same ? 0 : 1);
        due("family", x.family(0, 0), 0);
    }

    private static void families() {
        at("Terms V: if two MARKS at least are known of both and the same, and none that is known of both differs");
        int n = NONE;
        int[][][] joined = {{{1, 2, n}, {1, 2, n}}, {{1, n, 2}, {1, n, 2}}, {{n, 1, 2}, {n, 1, 2}}, {{1, 2, 3}, {1, 2, 3}},
            {{1, 2, 3}, {1, 2, n}}, {{1, 2, n}, {1, 2, 3}}, {{1, n, 3}, {1, 2, 3}}, {{n, 2, 3}, {1, 2, 3}}, {{0, 0, n}, {0, 0, n}},
            {{9999, 9999, n}, {9999, 9999, n}}};
        int[][][] apart = {{{n, n, n}, {n, n, n}}, {{1, n, n}, {1, n, n}}, {{1, 2, n}, {1, n, 2}}, {{1, 2, 3}, {1, 2, 4}},
            {{1, 2, 3}, {1, 4, 3}}, {{1, 2, 3}, {4, 2, 3}}, {{1, 2, n}, {1, 3, n}}, {{1, 2, n}, {2, 1, n}}, {{1, 1, n}, {1, n, 1}},
            {{n, 1, 2}, {1, 2, n}}, {{1, 2, 3}, {1, n, n}}, {{0, n, n}, {0, n, n}}, {{0, 0, 0}, {0, 0, 1}}};
        for (int[][] pair : joined) {
            family(pair[0], pair[1], true);
        }
        for (int[][] pair : apart) {
            family(pair[0], pair[1], false);
        }
        at("Terms V: or by others (of those known) in between");
        WarHouses x = new WarHouses();
        for (int i = 0; i < 5; i++) {
            x.entry(i, 0, 1, 0, 0, 0, i == 3 ? 10 : i == 2 ? 5 : 0);
        }
        marks(x, 4, 1, 2, n);
        marks(x, 3, n, 2, 3);
        marks(x, 2, 1, 2, 3);
        due("joined by 2", x.family(4, 10), 2);
        due("joined by 2", x.family(3, 10), 2);
        due("ahead of 3", x.family(4, 9), 2);
        due("ahead of 2", x.family(4, 4), 4);
        due("not known", x.family(2, 4), NONE);
        marks(x, 0, 1, n, 3);
        due("named by its lowest ENTRY", x.family(4, 10), 0);
        due("named by its lowest ENTRY", x.family(3, 10), 0);
        due("named by its lowest ENTRY", x.family(2, 5), 0);
        due("2 isn't known", x.family(4, 4), 4);
        due("the lowest by itself", x.family(0, 4), 0);
        due("one without MARKS", x.family(1, 10), 1);
        at("Terms V: ends that differ are joined by one in between");
        WarHouses y = new WarHouses();
        for (int i = 0; i < 3; i++) {
            listed(y, 1, 0);
        }
        marks(y, 0, 1, 2, 3);
        marks(y, 1, 1, 2, 4);
        due("they differ", y.family(1, 0), 1);
        marks(y, 2, 1, 2, n);
        due("joined", y.family(1, 0), 0);
        due("joined", y.family(2, 0), 0);
        at("Terms V: A FAMILY is named by its lowest ENTRY (of those known)");
        WarHouses z = new WarHouses();
        z.entry(0, 0, 1, 0, 0, 0, 7);
        listed(z, 1, 0);
        listed(z, 1, 0);
        for (int i = 0; i < 3; i++) {
            marks(z, i, 5, 5, n);
        }
        due("ahead of the lowest", z.family(2, 6), 1);
        due("then", z.family(2, 7), 0);
        due("asked in turn", z.family(2, 6), 1);
        at("Terms V: two FAMILIES become one by a last ENTRY");
        WarHouses w = new WarHouses();
        for (int i = 0; i < 6; i++) {
            listed(w, 1, 0);
        }
        marks(w, 1, 1, 2, n);
        marks(w, 3, 1, 2, n);
        marks(w, 2, n, 3, 4);
        marks(w, 4, n, 3, 4);
        due("one", w.family(3, 0), 1);
        due("the other", w.family(4, 0), 2);
        marks(w, 5, 1, n, 4);
        due("not yet", w.family(5, 0), 5);
        WarHouses v = new WarHouses();
        for (int i = 0; i < 4; i++) {
            listed(v, 1, 0);
        }
        marks(v, 1, 1, 2, n);
        marks(v, 2, 1, n, 3);
        due("apart", v.family(2, 0), 2);
        marks(v, 3, 1, 2, 3);
        due("one", v.family(2, 0), 1);
        due("one", v.family(3, 0), 1);
        due("another", v.family(0, 0), 0);
    }

    // ------------------------------------------------------------ POINTS, ORDER, BESIDE

    private static void points() {
        at("Terms V: POINTS: persons, children, ill, have of the ENTRY, waited: w less its WEEK (0 at least), week w, rooms 0");
        WarHouses x = under("points persons * 1000 + children * 100 + have * 10 + ill;points waited * 10000;"
            + "points week * 10000 * 100;points rooms");
        x.entry(0, 6, 20, 19, 9, 1, 3);
        x.entry(5, 0, 1, 0, 0, 0, 0);
        int own = 20 * 1000 + 19 * 100 + 9 * 10 + 1;
        due("in its WEEK", x.points(0, 6, 3), own + 6_000_000);
        due("a WEEK later", x.points(0, 7, 3), own + 7_010_000);
        due("ahead of it", x.points(0, 5, 3), own + 5_000_000);
        due("in WEEK 0", x.points(0, 0, 3), own);
        due("in the last", x.points(1, 259, 0), 1000 + 259_000_000 + 2_590_000);
        at("Terms V: as known in k");
        law(x, "points 5", 0, 9);
        law(x, "strike 0 clause 0;strike 0 clause 1;strike 0 clause 2", 2, 9);
        due("as known", x.points(0, 6, 8), own + 6_000_000);
        due("as known", x.points(0, 6, 9), 5);
        due("as known, ahead of a strike", x.points(0, 1, 9), own + 1_000_005);
        at("promise 27: told as 1,000,000,000, if they are more, or so far below 0");
        String most = "points 10000 * 10000 * 10";
        String least = "points 0 - 10000 * 10000 * 10";
        due("just so many", points(most), MUCH);
        due("one more", points(most + ";points 1"), MUCH);
        due("one less", points(most + ";points 0 - 1"), MUCH - 1);
        due("many more", points(times(most + ";", 12) + "points 1"), MUCH);
        due("just so few", points(least), -MUCH);
        due("one less", points(least + ";points 0 - 1"), -MUCH);
        due("one more", points(least + ";points 1"), 1 - MUCH);
        due("many less", points(times(least + ";", 9) + "points 1"), -MUCH);
        due("what adds up to nothing", points(most + ";" + most + ";" + most + ";" + least + ";" + least + ";" + least), 0);
        at("promise 27: NOTHING without the ENTRY (not known, too)");
        due("no ENTRY", x.points(2, 0, 0), NOTHING);
        due("not known", x.points(0, 6, 2), NOTHING);
        due("without \"points\" 0", new WarHouses().offer(0) + points("rent 1"), 0);
    }

    private static int points(String text) {
        WarHouses x = under(text);
        listed(x, 1, 0);
        return x.points(0, 0, 0);
    }

    private static void orderIs(WarHouses x, int week, int known, int... entries) {
        due("how many", x.order(0, week, known, -1), entries.length);
        for (int i = 0; i < entries.length; i++) {
            due("the " + i + "th", x.order(0, week, known, i), entries[i]);
        }
        due("beyond", x.order(0, week, known, entries.length), NONE);
    }

    private static void orders() {
        at("Terms V: ORDER: most POINTS first, then the earlier WEEK, then the lower ENTRY");
        WarHouses x = under("points have");
        int[][] told = {{5, 3}, {4, 3}, {5, 7}, {4, 3}, {0, 0}, {6, 7}};
        for (int[] t : told) {
            x.entry(0, t[0], 1, 0, t[1], 0, 0);
        }
        x.entry(1, 0, 1, 0, 9, 0, 0);
        orderIs(x, 6, 0, 2, 5, 1, 3, 0, 4);
        orderIs(x, 5, 0, 2, 1, 3, 0, 4);
        orderIs(x, 4, 0, 1, 3, 4);
        orderIs(x, 3, 0, 4);
        due("of another COUNCIL", x.order(1, 0, 0, 0), 6);
        due("of another COUNCIL", x.order(1, 0, 0, -1), 1);
        due("of another COUNCIL", x.order(2, 0, 0, -1), 0);
        at("promise 27: ORDER goes by what they are");
        WarHouses y = under("points 10000 * 10000 * 10;points have");
        listed(y, 1, 0);
        listed(y, 1, 5);
        listed(y, 1, 4);
        due("told alike", y.points(0, 0, 0), y.points(1, 0, 0));
        orderIs(y, 0, 0, 1, 2, 0);
        WarHouses z = under("points 0 - 10000 * 10000 * 10;points 0 - have");
        listed(z, 1, 4);
        listed(z, 1, 0);
        listed(z, 1, 2);
        due("told alike", z.points(0, 0, 0), z.points(1, 0, 0));
        orderIs(z, 0, 0, 1, 2, 0);
        at("Terms V: (ENTRIES known, from w or ahead of it on)");
        WarHouses w = new WarHouses();
        w.entry(0, 3, 1, 0, 0, 0, 0);
        w.entry(0, 0, 1, 0, 0, 0, 7);
        orderIs(w, 2, 6);
        orderIs(w, 3, 6, 0);
        orderIs(w, 2, 7, 1);
        orderIs(w, 3, 7, 1, 0);
        at("promise 28: how many (i -1). NONE");
        due("below", w.order(0, 3, 7, -2), NONE);
        due("beyond", w.order(0, 3, 7, 2), NONE);
        at("promise 28: of a list of 60, of each COUNCIL");
        for (int c = 0; c < 6; c++) {
            WarHouses v = under("points have");
            for (int i = 0; i < 60; i++) {
                v.entry(c, 0, 1, 0, i / 6, 0, 0);
            }
            due("how many", v.order(c, 0, 0, -1), 60);
            for (int i = 0; i < 60; i++) {
                due("the " + i + "th", v.order(c, 0, 0, i), (9 - i / 6) * 6 + i % 6);
            }
        }
    }

    private static void besides() {
        at("Terms V: BESIDE: how many pairs of ENTRIES known in both stand otherwise to one another");
        WarHouses x = under("points have");
        for (int i = 0; i < 5; i++) {
            x.entry(0, i == 4 ? 9 : 0, 1, 0, i, 0, i == 3 ? 6 : 0);
        }
        x.entry(1, 0, 1, 0, 0, 0, 0);
        x.entry(1, 0, 1, 0, 3, 0, 0);
        law(x, "points 0 - 2 * have", 0, 5);
        due("all three turned", x.beside(0, 0, 4, 5), 3);
        due("the other way round", x.beside(0, 0, 5, 4), 3);
        due("of those known in both", x.beside(0, 0, 4, 6), 3);
        due("of those known in both", x.beside(0, 0, 6, 4), 3);
        due("of four, that all stand alike", x.beside(0, 0, 5, 6), 0);
        due("in a WEEK with one more", x.beside(0, 9, 4, 5), 6);
        due("ahead of it", x.beside(0, 8, 4, 5), 3);
        due("known in both with one more", x.beside(0, 9, 6, 4), 6);
        due("of the same", x.beside(0, 9, 6, 6), 0);
        due("of the same", x.beside(0, 9, 0, 4), 0);
        due("another COUNCIL", x.beside(1, 9, 4, 5), 1);
        due("a COUNCIL without", x.beside(2, 9, 4, 5), 0);
        law(x, "points 100 if have = 0", 3, 8);
        law(x, "points 100 if have = 2", 3, 8);
        due("two go ahead", x.beside(0, 3, 7, 8), 1);
        due("two go ahead, by another base", x.beside(0, 3, 4, 8), 2);
        due("ahead of that WEEK", x.beside(0, 2, 7, 8), 0);
        at("Terms V: BESIDE of a whole list");
        WarHouses y = under("points have");
        for (int i = 0; i < 60; i++) {
            y.entry(0, 0, 1 + i % 6, 0, i / 6, 0, 0);
        }
        law(y, "points 0 - have * 2", 0, 1);
        due("all pairs of other POINTS", y.beside(0, 0, 0, 1), 60 * 59 / 2 - 10 * 15);
    }

    // ------------------------------------------------------------ HOMES and OFFERS

    private static void homes() {
        at("Terms V: A PLOT is a HOME in a WEEK w as known in k, if it is DONE by w");
        WarHouses x = under("huts 5;rent 7");
        for (int kind = 0; kind < 3; kind++) {
            house(x, kind, 1, 4);
        }
        for (int kind = 0; kind < 3; kind++) {
            due("not DONE yet", x.rent(kind, 3, 0), NONE);
            due("DONE", x.rent(kind, 4, 0), 7);
            due("the last WEEK of a hut", x.rent(kind, 8, 0), 7);
            due("its end", x.rent(kind, 9, 0), kind == HUT ? NONE : 7);
            due("the last WEEK of all", x.rent(kind, 259, 0), kind == HUT ? NONE : 7);
        }
        at("Terms V: \"huts\" WEEKS behind its DONE WEEK (as in force in that WEEK as known in k, with week that WEEK)");
        WarHouses y = under("huts week + 1;rent 7");
        law(y, "huts 2", 5, 0);
        law(y, "huts 50", 0, 9);
        law(y, "huts 3", 6, 10);
        house(y, HUT, 1, 4);
        house(y, HUT, 1, 5);
        int[][] ends = {{8, 9, 7}, {9, 54, 55}, {10, 54, 55}};
        for (int[] e : ends) {
            due("of WEEK 4", y.rent(0, e[1] - 1, e[0]), 7);
            due("of WEEK 4", y.rent(0, e[1], e[0]), NONE);
            due("of WEEK 5", y.rent(1, e[2] - 1, e[0]), 7);
            due("of WEEK 5", y.rent(1, e[2], e[0]), NONE);
        }
        at("Terms V: \"huts\" 0, below 0, without, and very many");
        String[] laws = {"huts 0", "huts 0 - 5", "squat 1", "huts 10000 * 10000 * 10", "huts 1 / 0", "huts 1"};
        int[] last = {NONE, NONE, 259, 259, 259, 4};
        for (int i = 0; i < laws.length; i++) {
            WarHouses z = under(laws[i] + ";rent 7");
            house(z, HUT, 1, 4);
            due(laws[i] + " in 3", z.rent(0, 3, 0), NONE);
            due(laws[i] + " in 4", z.rent(0, 4, 0), last[i] >= 4 ? 7 : NONE);
            due(laws[i] + " in 5", z.rent(0, 5, 0), last[i] >= 5 ? 7 : NONE);
            due(laws[i] + " in 259", z.rent(0, 259, 0), last[i] >= 259 ? 7 : NONE);
        }
        at("Terms V: of an end in WEEK 1");
        WarHouses one = under("huts 1");
        house(one, HUT, 1, 0);
        listed(one, 1, 0);
        one.image(0);
        told(one, "offer in WEEK 0", one.offer(0), 1);
        due("lives", one.lives(0, 0, 0), 0);
        due("its end", one.lives(0, 1, 0), NONE);
        one.back(0);
        told(one, "squat in WEEK 0", one.squat(0, 0, 0), 1);
        one.back(0);
        told(one, "squat in WEEK 1", one.squat(0, 0, 1), -3);
        told(one, "offer in WEEK 1", one.offer(1), 0);
        at("Terms V: rooms 0 (what isn't told of there)");
        WarHouses six = under("huts rooms + persons + have + 2;squat rooms + persons + have + 2");
        house(six, HUT, 6, 0);
        house(six, 0, 6, 0);
        six.entry(0, 0, 6, 0, 6, 0, 0);
        six.need(0, 0, 0, 6, 0, 0);
        due("points", six.points(0, 0, 0), 0);
        due("a HOME", six.rent(0, 1, 0), 0);
        due("its end", six.rent(0, 2, 0), NONE);
        six.squat(0, 1, 3);
        due("squats", six.lives(1, 4, 0), NONE);
        due("lives", six.lives(1, 5, 0), 0);
        at("Terms V: LATE by 0, in offer() and squat(), too");
        WarHouses late = under("need brick base bricks 1");
        house(late, 0, 1, 0);
        house(late, 0, 1, 0);
        late.deliver(0, 5, 1, 0);
        late.deliver(0, 7, 1, 0);
        listed(late, 1, 0);
        listed(late, 1, 0);
        due("knock", late.knock(0, 3), 6);
        told(late, "not DONE", late.offer(4), 0);
        told(late, "DONE", late.offer(5), 1);
        told(late, "not DONE", late.squat(1, 1, 6), -3);
        due("stock", late.stock(0, 7, 0, 5), 0);
        told(late, "DONE", late.squat(1, 1, 7), 1);
        due("rent", late.rent(1, 7, 0), 0);
        at("Terms V: in the RUN as known in k, LATE by 0");
        WarHouses w = under("rent 7;need brick base bricks 1");
        w.plot(0, 0, 1, 0);
        w.start(0, 2, 4);
        w.deliver(0, 6, 1, 5);
        w.knock(9, 9);
        due("not known", w.rent(0, 259, 3), NONE);
        due("bricks not known", w.rent(0, 259, 4), NONE);
        due("known, not DONE", w.rent(0, 5, 5), NONE);
        due("known", w.rent(0, 6, 5), 7);
        due("of an earlier WEEK as known later", w.rent(0, 6, 259), 7);
    }

    private static void offered() {
        at("Terms V: OFFERED: PLOT by PLOT each that is a HOME in w as known in w");
        WarHouses x = new WarHouses();
        house(x, 0, 1, 5);
        listed(x, 1, 0);
        told(x, "not DONE yet", x.offer(4), 0);
        told(x, "DONE", x.offer(5), 1);
        due("lives there", x.lives(0, 5, 0), 0);
        due("ahead of it", x.lives(0, 4, 0), NONE);
        WarHouses y = new WarHouses();
        y.plot(0, 0, 1, 0);
        y.start(0, 0, 7);
        listed(y, 1, 0);
        told(y, "not known", y.offer(6), 0);
        told(y, "known", y.offer(7), 1);
        due("since", y.lives(0, 7, 1), 7);
        WarHouses z = under("huts 3");
        house(z, HUT, 1, 2);
        listed(z, 1, 0);
        listed(z, 1, 0);
        told(z, "in the last WEEK of a hut", z.offer(4), 1);
        due("there", z.lives(0, 4, 0), 0);
        due("till its end", z.lives(0, 5, 0), NONE);
        told(z, "a hut that has come to its end", z.offer(5), 0);
        at("Terms V: to the first in ORDER of its COUNCIL");
        WarHouses w = under("points have;points 9 if ill = 1 and week > 3");
        for (int c = 0; c < 6; c++) {
            w.plot(c, 0, 1, 0);
            w.start(c, 0, 0);
        }
        for (int c = 0; c < 6; c++) {
            w.entry(c, c == 5 ? 9 : 0, 1, 0, 3, 0, c == 4 ? 9 : 0);
            w.entry(c, c == 5 ? 9 : 0, 1, 0, 4, 0, c == 4 ? 9 : 0);
        }
        told(w, "offer", w.offer(0), 4);
        for (int c = 0; c < 4; c++) {
            due("most POINTS", w.lives(c, 0, 0), c * 2 + 1);
        }
        due("nobody known", w.lives(4, 0, 0), NONE);
        due("nobody on the list yet", w.lives(5, 0, 0), NONE);
        told(w, "offer", w.offer(9), 2);
        due("known by then", w.lives(4, 9, 0), 9);
        due("on the list by then", w.lives(5, 9, 0), 11);
        at("Terms V: (in w as known in w)");
        WarHouses v = under("points have");
        law(v, "points 9 if have = 0", 4, 0);
        law(v, "points 9 if have = 1", 0, 6);
        house(v, 0, 1, 3);
        house(v, 0, 1, 5);
        house(v, 0, 1, 6);
        for (int i = 0; i < 4; i++) {
            listed(v, 1, 3 - i);
        }
        told(v, "offer", v.offer(3), 1);
        told(v, "offer", v.offer(5), 1);
        told(v, "offer", v.offer(6), 1);
        due("by the first ACT", v.lives(0, 6, 0), 0);
        due("by the second", v.lives(1, 6, 0), 3);
        due("by the third", v.lives(2, 6, 0), 2);
    }

    private static void whoIsOffered() {
        at("Terms V: whose FAMILY lives in no PLOT, or in one with fewer ROOMS");
        for (int rooms = 1; rooms <= 3; rooms++) {
            WarHouses x = new WarHouses();
            house(x, STEEL, 2, 0);
            house(x, STEEL, rooms, 1);
            listed(x, 1, 0);
            told(x, "the first", x.offer(0), 1);
            told(x, "to one of " + rooms, x.offer(1), rooms > 2 ? 1 : 0);
            due("lives", x.lives(rooms > 2 ? 1 : 0, 1, 0), 0);
            due("nobody", x.lives(rooms > 2 ? 0 : 1, 1, 0), NONE);
        }
        at("Terms V: whose persons are not more than 2 times its ROOMS");
        for (int rooms = 1; rooms <= 6; rooms++) {
            for (int persons = 2 * rooms - 1; persons <= 2 * rooms + 1; persons++) {
                WarHouses x = new WarHouses();
                house(x, 0, rooms, 0);
                x.entry(0, 0, persons, persons - 1, 0, 0, 0);
                told(x, persons + " in " + rooms, x.offer(0), persons <= 2 * rooms ? 1 : 0);
            }
        }
        WarHouses b = under("points persons");
        house(b, 0, 3, 0);
        listed(b, 5, 0);
        listed(b, 7, 0);
        listed(b, 6, 0);
        told(b, "the first who may", b.offer(0), 1);
        due("the first who may", b.lives(0, 0, 0), 2);
        at("Terms V: its FAMILY (as known in w)");
        WarHouses y = under("points have");
        house(y, 0, 1, 0);
        house(y, 0, 1, 5);
        y.entry(0, 0, 1, 0, 9, 0, 0);
        y.entry(0, 0, 1, 0, 8, 0, 0);
        y.entry(0, 0, 1, 0, 7, 0, 0);
        y.entry(0, 0, 1, 0, 0, 0, 6);
        marks(y, 0, 1, 2, NONE);
        marks(y, 3, 1, 2, 3);
        marks(y, 1, NONE, 2, 3);
        told(y, "offer", y.offer(0), 1);
        y.image(0);
        told(y, "ahead of one in between", y.offer(5), 1);
        due("another FAMILY", y.lives(1, 5, 0), 1);
        y.back(0);
        told(y, "joined by one in between", y.offer(6), 1);
        due("the FAMILY has a roof", y.lives(1, 6, 0), 2);
        at("Terms V: and in which nobody lives or squats");
        WarHouses z = new WarHouses();
        house(z, 0, 1, 0);
        house(z, 0, 1, 0);
        for (int i = 0; i < 4; i++) {
            listed(z, 1, 0);
        }
        told(z, "squat", z.squat(3, 0, 0), 1);
        told(z, "one is free", z.offer(0), 1);
        told(z, "none is free", z.offer(0), 0);
        due("to the first", z.lives(1, 0, 0), 0);
        told(z, "out", z.out(0, 0), 0);
        told(z, "one is free", z.offer(0), 1);
        due("to the next", z.lives(0, 0, 0), 1);
        at("Terms V: who has one is not asked again, who squats is");
        WarHouses w = new WarHouses();
        house(w, 0, 2, 0);
        house(w, 0, 1, 1);
        listed(w, 1, 0);
        told(w, "squat", w.squat(0, 0, 0), 1);
        told(w, "who squats lives nowhere: to one with fewer ROOMS, and back", w.offer(1), 2);
        due("lives", w.lives(0, 1, 0), 0);
        due("behind one move", w.lives(0, 1, 2), 1);
        due("left at once", w.lives(1, 1, 0), NONE);
        told(w, "it squats no more", w.out(0, 1), -3);
    }

    private static void chains() {
        at("Terms V: The PLOT in which they lived is offered likewise at once, and so on; then comes the next PLOT");
        WarHouses x = under("points have");
        for (int p = 0; p < 4; p++) {
            house(x, 0, p < 3 ? p + 1 : 4, p < 3 ? 0 : 5);
        }
        house(x, 0, 1, 5);
        for (int e = 0; e < 5; e++) {
            listed(x, 1, e);
        }
        told(x, "offer", x.offer(0), 6);
        int[] live = {2, 3, 4};
        for (int p = 0; p < 3; p++) {
            due("PLOT " + p, x.lives(p, 0, 0), live[p]);
            due("moves ahead of it in its chain", x.lives(p, 0, 2), 2 - p);
        }
        told(x, "a chain of four, then the next PLOT", x.offer(5), 5);
        int[] then = {1, 2, 3, 4, 0};
        int[] place = {3, 2, 1, 0, 0};
        for (int p = 0; p < 5; p++) {
            due("PLOT " + p, x.lives(p, 5, 0), then[p]);
            due("moves ahead of it in its chain", x.lives(p, 5, 2), place[p]);
            due("since", x.lives(p, 5, 1), 5);
        }
        for (int p = 0; p < 3; p++) {
            due("ahead of it", x.lives(p, 4, 0), live[p]);
            due("ahead of it", x.lives(p, 4, 1), 0);
        }
        due("promise 44: moves of all OFFERS", x.count(7), 11);
        at("Terms V: (else that in which they squatted)");
        WarHouses y = under("points have");
        house(y, 0, 3, 0);
        house(y, 0, 1, 4);
        listed(y, 1, 1);
        listed(y, 5, 0);
        told(y, "squat", y.squat(0, 0, 0), 1);
        told(y, "to the one who squats, then that back to the same", y.offer(4), 2);
        due("lives", y.lives(0, 4, 0), 0);
        due("since", y.lives(0, 4, 1), 4);
        due("nobody", y.lives(1, 4, 0), NONE);
        at("Terms V: 30 PLOTS and 60 ENTRIES");
        WarHouses full = under("points have");
        for (int p = 0; p < 30; p++) {
            full.plot(p % 6, 0, 1 + p / 6, 0);
            full.start(p, 0, 0);
        }
        for (int e = 0; e < 60; e++) {
            full.entry(e % 6, 0, 1, 0, e / 6, 0, 0);
        }
        told(full, "one more in each PLOT's chain", full.offer(0), 6 * 15);
        for (int p = 0; p < 30; p++) {
            due("lives in " + p, full.lives(p, 0, 0), 30 + p);
            due("roof of " + p, full.roof(30 + p, 0), p);
            due("moves ahead of it", full.lives(p, 0, 2), 4 - p / 6);
        }
        at("Terms V: if it is a HOME in w as known in w");
        WarHouses z = under("points have;huts 9");
        law(z, "huts 2", 0, 4);
        house(z, HUT, 1, 0);
        house(z, 0, 2, 4);
        listed(z, 1, 1);
        listed(z, 1, 0);
        told(z, "offer", z.offer(0), 1);
        due("till the end as it was known", z.lives(0, 8, 0), 0);
        due("till the end as it was known", z.lives(0, 9, 0), NONE);
        z.image(0);
        told(z, "what they leave is no HOME any more as known", z.offer(4), 1);
        due("nobody", z.lives(0, 4, 0), NONE);
        due("moved", z.lives(1, 4, 0), 0);
        at("Terms V: whatever becomes known later");
        z.back(0);
        told(z, "they live on there", z.offer(3), 0);
        due("they live on there", z.lives(0, 8, 0), 0);
        at("Terms V: (10 moves in a chain at most)");
        for (int many = 9; many <= 12; many++) {
            WarHouses w = new WarHouses();
            for (int i = 0; i < many; i++) {
                house(w, 0, 1, 0);
                listed(w, 1, 0);
                w.squat(i, i, 0);
            }
            house(w, 0, 1, 1);
            told(w, "a chain of " + many, w.offer(1), Math.min(many, 10));
            due("the first", w.lives(many, 1, 0), 0);
            due("the last", w.lives(Math.min(many, 10) - 2, 1, 2), Math.min(many, 10) - 1);
            due("what it left", w.lives(Math.min(many, 10) - 1, 1, 0), NONE);
        }
    }

    private static void movesInOrder() {
        at("Terms V: Moves are kept in WEEKS that don't fall; promise 30: -1 (a WEEK ahead of the last move's)");
        String[] calls = {"offer", "squat", "out"};
        for (int i = 0; i < 3; i++) {
            WarHouses x = new WarHouses();
            house(x, 0, 1, 0);
            house(x, 0, 1, 0);
            listed(x, 9, 0);
            listed(x, 9, 0);
            x.squat(1, 1, 4);
            told(x, calls[i], i == 0 ? x.offer(6) : i == 1 ? x.squat(0, 0, 6) : x.out(1, 6), i == 1 ? 2 : 0);
            told(x, "offer ahead of it", x.offer(5), -1);
            told(x, "squat ahead of it", x.squat(0, 0, 5), -1);
            told(x, "out ahead of it", x.out(1, 5), -1);
            told(x, "offer in the same WEEK", x.offer(6), 0);
            told(x, "a later WEEK", x.offer(259), 0);
            told(x, "ahead of that", x.offer(258), -1);
        }
        WarHouses y = new WarHouses();
        house(y, 0, 1, 0);
        listed(y, 9, 0);
        y.squat(0, 0, 3);
        told(y, "refused in a later WEEK", y.squat(0, 0, 200), -3);
        told(y, "refused in a later WEEK", y.out(1, 200), -2);
        told(y, "refused in a later WEEK", y.offer(260), -1);
        told(y, "so the last move's WEEK is as it was", y.out(0, 4), 0);
        told(y, "refused in a later WEEK", y.out(0, 200), -3);
        told(y, "so the last move's WEEK is as it was", y.offer(4), 0);
        at("Terms V: OFFERED (100 times at most)");
        WarHouses z = new WarHouses();
        for (int i = 0; i < 100; i++) {
            told(z, "offer", z.offer(i), 0);
            if (i % 10 == 0) {
                told(z, "a refused one doesn't count", z.offer(260), -1);
            }
        }
        told(z, "the 101st", z.offer(259), -5);
        due("moves", z.count(7), 0);
        at("Terms V: till they leave it");
        WarHouses w = new WarHouses();
        house(w, 0, 1, 0);
        house(w, 0, 2, 0);
        house(w, 0, 3, 7);
        listed(w, 1, 0);
        told(w, "twice in one WEEK", w.offer(0), 2);
        due("not there for a WEEK", w.lives(0, 0, 0), NONE);
        due("there", w.lives(1, 0, 0), 0);
        w.offer(7);
        due("till it left", w.lives(1, 6, 0), 0);
        due("till it left", w.lives(1, 7, 0), NONE);
        due("from then on", w.lives(2, 7, 0), 0);
        due("to the end of all", w.lives(2, 259, 0), 0);
        at("promise 32: The PLOT in which the FAMILY (as known in that WEEK) lives in a WEEK");
        due("roof", w.roof(0, 0), 1);
        due("roof", w.roof(0, 6), 1);
        due("roof", w.roof(0, 7), 2);
        due("roof", w.roof(0, 259), 2);
        w.entry(0, 0, 1, 0, 0, 0, 5);
        due("no roof", w.roof(1, 5), NONE);
        marks(w, 0, 7, 7, NONE);
        marks(w, 1, 7, 7, NONE);
        due("of its FAMILY", w.roof(1, 5), 1);
        due("of its FAMILY", w.roof(1, 7), 2);
        due("not known", w.roof(1, 4), NONE);
    }

    private static void kept() {
        at("Terms V: Moves are kept as they were done");
        WarHouses x = under("points 0 - persons");
        house(x, 0, 2, 0);
        house(x, 0, 1, 0);
        house(x, 0, 3, 1);
        for (int e = 0; e < 3; e++) {
            listed(x, 1, 0);
        }
        x.squat(0, 1, 0);
        told(x, "a chain of two", x.offer(0), 2);
        told(x, "a chain of three", x.offer(1), 3);
        int[][] lived = {{0, 1, NONE}, {1, 2, 0}};
        int[][] chains = {{0, 1, NONE}, {1, 2, 0}};
        for (int week = 0; week < 2; week++) {
            for (int p = 0; p < 3; p++) {
                due("in " + p + " in WEEK " + week, x.lives(p, week, 0), lived[week][p]);
                due("moves ahead of it", x.lives(p, week, 2), chains[week][p]);
                due("since", x.lives(p, week, 1), lived[week][p] == NONE ? NONE : week);
            }
        }
        for (int week = 2; week < 6; week++) {
            x.offer(week);
            due("still", x.lives(1, 0, 0), 1);
            due("still", x.lives(1, week, 0), 2);
        }
        at("Terms V: or its end (as known in w), whatever becomes known later");
        WarHouses y = under("squat 2;huts 5");
        law(y, "huts 20", 0, 6);
        house(y, HUT, 1, 0);
        house(y, 0, 1, 0);
        for (int e = 0; e < 3; e++) {
            y.entry(1, 0, e + 1, 0, 0, 0, 0);
        }
        y.squat(2, 1, 0);
        y.squat(0, 0, 0);
        told(y, "out in the same WEEK", y.out(1, 0), 0);
        told(y, "a HOME again, as known by then", y.squat(1, 0, 7), 3);
        due("squats", y.lives(0, 1, 0), NONE);
        due("lives", y.lives(0, 2, 0), 0);
        due("lives", y.lives(0, 4, 0), 0);
        due("its end as it was known", y.lives(0, 5, 0), NONE);
        due("nobody", y.lives(0, 6, 0), NONE);
        due("squats", y.lives(0, 8, 0), NONE);
        due("lives", y.lives(0, 9, 0), 1);
        due("lives", y.lives(0, 19, 0), 1);
        due("its end as it was known then", y.lives(0, 20, 0), NONE);
        due("persons", y.under(0, 4), 1);
        due("persons", y.under(0, 9), 2);
    }

    private static void joined() {
        at("Terms V: A FAMILY that was joined lives in the lowest of those in which it lives, and squats in the lowest of the others");
        WarHouses x = under("points have");
        int[] rooms = {1, 2, 1, 1, 3};
        for (int p = 0; p < 5; p++) {
            house(x, 0, rooms[p], p < 4 ? 0 : 4);
        }
        for (int e = 0; e < 4; e++) {
            listed(x, 1, 0);
        }
        x.squat(2, 2, 0);
        x.squat(3, 3, 0);
        told(x, "two live", x.offer(0), 3);
        due("in one of two ROOMS", x.roof(0, 0), 1);
        due("in one of one", x.roof(1, 0), 0);
        for (int e = 0; e < 4; e++) {
            marks(x, e, 1, 1, NONE);
        }
        for (int e = 0; e < 4; e++) {
            due("the lowest", x.roof(e, 0), 0);
        }
        told(x, "squat: it lives", x.squat(3, 4, 4), -3);
        x.image(0);
        at("Terms V: these it leaves");
        told(x, "to one with more ROOMS than the lowest, then what it lived in to nobody", x.offer(4), 1);
        due("left", x.lives(0, 4, 0), NONE);
        due("stays", x.lives(1, 4, 0), 0);
        due("gone in", x.lives(4, 4, 0), 0);
        told(x, "left", x.out(2, 4), -3);
        due("roof: the lowest again", x.roof(2, 4), 1);
        told(x, "squats on there", x.out(3, 4), 0);
        at("Terms V: what it lived in is offered at once, what it squatted in is not");
        x.back(0);
        listed(x, 2, 0);
        told(x, "two moves", x.offer(4), 2);
        due("at once", x.lives(0, 4, 0), 4);
        due("at once", x.lives(0, 4, 2), 1);
        due("nobody", x.lives(2, 4, 0), NONE);
    }

    // ------------------------------------------------------------ SQUATTERS

    private static void squatters() {
        at("promise 33: how many there were; Terms V: SQUATTERS, 40 at most");
        WarHouses x = new WarHouses();
        house(x, 0, 1, 0);
        listed(x, 1, 0);
        for (int i = 1; i <= 40; i++) {
            told(x, "squat", x.squat(0, 0, i), i);
            told(x, "out", x.out(0, i), 0);
        }
        told(x, "the 41st", x.squat(0, 0, 40), -5);
        due("SQUATTERS in all", x.count(8), 40);
        due("nobody there", x.out(0, 40), -3);
        at("Terms V: an ENTRY's FAMILY that lives nowhere and squats nowhere");
        WarHouses y = new WarHouses();
        for (int p = 0; p < 3; p++) {
            house(y, 0, 1, 0);
        }
        for (int e = 0; e < 4; e++) {
            listed(y, 1, 0);
        }
        marks(y, 0, 1, 1, NONE);
        marks(y, 1, 1, 1, NONE);
        told(y, "squat", y.squat(1, 1, 0), 1);
        told(y, "it squats", y.squat(1, 2, 0), -3);
        told(y, "its FAMILY squats", y.squat(0, 2, 0), -3);
        told(y, "another one", y.squat(2, 2, 0), 2);
        told(y, "offer", y.offer(0), 3);
        told(y, "it lives", y.squat(1, 2, 0), -3);
        told(y, "its FAMILY lives", y.squat(0, 2, 0), -3);
        at("Terms V: into a PLOT that is a HOME in w as known in w and in which nobody lives or squats");
        WarHouses z = under("huts 3");
        house(z, HUT, 1, 2);
        z.plot(0, 0, 1, 0);
        z.start(1, 0, 5);
        for (int e = 0; e < 3; e++) {
            listed(z, 1, 0);
        }
        told(z, "not DONE", z.squat(0, 0, 1), -3);
        told(z, "not known", z.squat(0, 1, 4), -3);
        told(z, "the last WEEK of a hut", z.squat(0, 0, 4), 1);
        told(z, "somebody squats", z.squat(1, 0, 4), -3);
        told(z, "its end", z.squat(1, 0, 5), -3);
        told(z, "its squatting came to the end", z.squat(0, 1, 5), 2);
        told(z, "no room left for another", z.squat(1, 1, 5), -3);
        WarHouses lived = new WarHouses();
        house(lived, 0, 1, 0);
        listed(lived, 1, 0);
        listed(lived, 1, 0);
        lived.offer(0);
        told(lived, "somebody lives there", lived.squat(1, 0, 0), -3);
        told(lived, "it lives there by an offer", lived.out(0, 0), -3);
        told(lived, "a PLOT without a START", lived.squat(1, lived.plot(0, 0, 1, 0), 0), -3);
    }

    private static void squatting() {
        at("Terms V: From \"squat\" WEEKS (in force in w as known in w, with week w) behind w on they live there");
        int[] waits = {0, 1, 4};
        for (int wait : waits) {
            WarHouses x = under("squat week - " + (10 - wait));
            law(x, "squat 50", 11, 0);
            law(x, "squat 60", 0, 11);
            house(x, 0, 1, 0);
            listed(x, 3, 0);
            told(x, "squat", x.squat(0, 0, 10), 1);
            for (int week = 9; week < 17; week++) {
                boolean lives = week >= 10 + wait;
                due("lives in " + week, x.lives(0, week, 0), lives ? 0 : NONE);
                due("since", x.lives(0, week, 1), lives ? 10 : NONE);
                due("without a chain", x.lives(0, week, 2), lives ? 0 : NONE);
                due("roof in " + week, x.roof(0, week), lives ? 0 : NONE);
                due("under in " + week, x.under(0, week), lives ? 3 : 0);
            }
            x.image(0);
            for (int week = 10; week < 17; week++) {
                x.back(0);
                told(x, "out in " + week, x.out(0, week), week >= 10 + wait ? -3 : 0);
                due("lives behind it", x.lives(0, 20, 0), week >= 10 + wait ? 0 : NONE);
            }
        }
        at("Terms V: without such never");
        WarHouses y = new WarHouses();
        house(y, 0, 1, 0);
        listed(y, 1, 0);
        y.squat(0, 0, 0);
        due("never", y.lives(0, 259, 0), NONE);
        told(y, "out in the last WEEK", y.out(0, 259), 0);
        WarHouses n = under("squat 0 - 5");
        house(n, 0, 1, 0);
        listed(n, 1, 0);
        n.squat(0, 0, 3);
        due("below 0 counts as 0", n.lives(0, 3, 0), 0);
        at("Terms V: till its end (as known in w)");
        WarHouses z = under("squat 2;huts 5");
        law(z, "huts 3", 0, 2);
        law(z, "huts 9", 0, 3);
        house(z, HUT, 1, 0);
        listed(z, 1, 0);
        z.squat(0, 0, 1);
        due("not yet", z.lives(0, 2, 0), NONE);
        due("lives", z.lives(0, 3, 0), 0);
        due("the last WEEK", z.lives(0, 4, 0), 0);
        due("its end", z.lives(0, 5, 0), NONE);
        due("roof", z.roof(0, 4), 0);
        due("roof", z.roof(0, 5), NONE);
        at("promise 34: nobody squats there then (or their squatting came to the PLOT's end)");
        WarHouses w = under("squat 9;huts 5");
        house(w, HUT, 1, 0);
        listed(w, 1, 0);
        w.squat(0, 0, 1);
        w.image(0);
        told(w, "the last WEEK", w.out(0, 4), 0);
        told(w, "again", w.out(0, 4), -3);
        w.back(0);
        told(w, "its end", w.out(0, 5), -3);
        due("never lived there", w.lives(0, 20, 0), NONE);
        at("promise 34: They are put OUT of a PLOT in a WEEK");
        w.back(0);
        told(w, "out", w.out(0, 2), 0);
        told(w, "in again", w.squat(0, 0, 2), 2);
        told(w, "out in the same WEEK", w.out(0, 2), 0);
        told(w, "nobody", w.out(0, 2), -3);
        at("Terms V: A FAMILY that squats lives nowhere; if it moves, it squats no more");
        WarHouses v = under("points have");
        house(v, 0, 1, 0);
        house(v, 0, 2, 3);
        listed(v, 1, 5);
        listed(v, 1, 0);
        v.squat(0, 0, 0);
        due("roof", v.roof(0, 2), NONE);
        told(v, "both move", v.offer(3), 2);
        due("roof", v.roof(0, 3), 1);
        due("the other has it", v.lives(0, 3, 0), 1);
        due("behind one move", v.lives(0, 3, 2), 1);
        told(v, "nobody squats", v.out(0, 3), -3);
    }

    // ------------------------------------------------------------ RENT, LODGERS, TARGETS

    private static void rents() {
        at("Terms V: RENT: \"rent\" with rooms of the PLOT, week, and persons, children, ill, have of the ENTRY, waited 0");
        String[] words = {"rooms", "week", "persons", "children", "ill", "have", "waited"};
        int[] lived = {4, 6, 5, 3, 1, 2, 0};
        int[] empty = {4, 6, 0, 0, 0, 0, 0};
        for (int i = 0; i < words.length; i++) {
            WarHouses x = under("rent " + words[i] + ";squat 2");
            house(x, 0, 4, 0);
            x.entry(0, 0, 5, 3, 2, 1, 0);
            due(words[i] + ", nobody there", x.rent(0, 6, 0), empty[i]);
            x.squat(0, 0, 5);
            due(words[i] + ", squatted", x.rent(0, 6, 0), empty[i]);
            due(words[i] + ", lived there by then", x.rent(0, 7, 0), i == 1 ? 7 : lived[i]);
            due(words[i] + ", ahead of it", x.rent(0, 4, 0), i == 1 ? 4 : empty[i]);
            WarHouses y = under("rent " + words[i]);
            house(y, 0, 4, 0);
            y.entry(0, 0, 1, 0, 0, 0, 0);
            y.entry(0, 0, 5, 3, 2, 1, 0);
            law(y, "points have", 0, 0);
            y.offer(6);
            due(words[i] + ", lived there", y.rent(0, 6, 0), lived[i]);
        }
        at("Terms V: at least 0, told as 1,000,000,000 if more");
        String most = "rent 10000 * 10000 * 10";
        due("just", rent(most), MUCH);
        due("more", rent(most + ";rent 1"), MUCH);
        due("much more", rent(times(most + ";", 12) + "rent 1"), MUCH);
        due("less", rent(most + ";rent 0 - 1"), MUCH - 1);
        due("none", rent("rent 5;rent 0 - 5"), 0);
        due("below 0", rent("rent 5;rent 0 - 6"), 0);
        due("far below 0", rent("rent 0 - 10000 * 10000 * 10;rent 0 - 10000 * 10000 * 10;rent 0 - 10000 * 10000 * 10"), 0);
        due("more than it is less", rent(most + ";" + most + ";rent 0 - 10000 * 10000 * 10;rent 0 - 5"), MUCH - 5);
        due("without \"rent\"", rent("points 1"), 0);
        at("promise 35: in w as known in k; NONE (it is no HOME in that WEEK as known, too)");
        WarHouses z = under("rent 5");
        law(z, "rent 100", 4, 0);
        law(z, "rent 1000", 0, 6);
        house(z, 0, 1, 2);
        due("no HOME", z.rent(0, 1, 0), NONE);
        due("a HOME", z.rent(0, 2, 0), 5);
        due("in force", z.rent(0, 3, 5), 5);
        due("in force", z.rent(0, 4, 5), 105);
        due("known", z.rent(0, 3, 6), 1005);
        due("no PLOT", z.rent(1, 3, 6), NONE);
    }

    private static int rent(String text) {
        WarHouses x = under(text);
        house(x, 0, 1, 0);
        return x.rent(0, 0, 0);
    }

    private static void lodgers() {
        at("promise 36: how many times told; Terms V: LODGERS, 40 at most");
        WarHouses x = new WarHouses();
        house(x, 0, 1, 0);
        house(x, 0, 1, 0);
        for (int i = 1; i <= 40; i++) {
            told(x, "lodge", x.lodge(i % 2, 20, i, i), i);
        }
        told(x, "the 41st", x.lodge(0, 1, 0, 0), -5);
        for (int week = 0; week <= 41; week++) {
            for (int p = 0; p < 2; p++) {
                due("under " + p + " in " + week, x.under(p, week), week >= 1 && week <= 40 && week % 2 == p ? 20 : 0);
            }
        }
        at("promise 37: those of the ENTRY that lives there, and LODGERS");
        WarHouses y = new WarHouses();
        house(y, 0, 3, 4);
        listed(y, 6, 0);
        listed(y, 5, 0);
        due("nobody", y.under(0, 259), 0);
        y.lodge(0, 3, 2, 7);
        y.lodge(0, 10, 7, 9);
        int[] persons = {0, 0, 3, 3, 3, 3, 3, 13, 10, 10, 0};
        for (int w = 0; w < persons.length; w++) {
            due("LODGERS in " + w, y.under(0, w), persons[w]);
        }
        y.offer(4);
        for (int w = 0; w < persons.length; w++) {
            due("all in " + w, y.under(0, w), persons[w] + (w >= 4 ? 6 : 0));
        }
        marks(y, 0, 1, 1, 1);
        marks(y, 1, 1, 1, 1);
        due("of the ENTRY, not of its FAMILY", y.under(0, 20), 6);
        WarHouses z = new WarHouses();
        for (int p = 0; p < 3; p++) {
            house(z, 0, 3, 0);
            listed(z, 4 + p, 0);
        }
        z.offer(0);
        for (int p = 0; p < 3; p++) {
            due("those who live in " + p, z.under(p, 0), 4 + p);
        }
        at("promise 36: a PLOT that is no HOME can have been told");
        y.plot(0, 0, 1, 0);
        told(y, "lodge", y.lodge(1, 1, 0, 259), 3);
        due("status", y.status(), 0);
    }

    private static void truthIs(WarHouses x, int c, int q, int... due) {
        for (int what = 0; what < 5; what++) {
            due("truth " + what, x.truth(c, q, what), due[what]);
        }
    }

    private static void truths() {
        at("Terms VI: TRUTH: at least all seen; at most that and all CLAIMED of the others; MET; FALSE");
        WarHouses x = new WarHouses();
        truthIs(x, 0, 0, 0, 0, 0, 0, 0);
        told(x, "target", x.target(0, 0, 0), 0);
        truthIs(x, 0, 0, 0, 0, 0, 1, 0);
        told(x, "target anew", x.target(0, 0, 5), 0);
        truthIs(x, 0, 0, 0, 0, 0, 0, 0);
        told(x, "claim", x.claim(0, 0, 0, 5), 0);
        truthIs(x, 0, 0, 0, 5, 5, 0, 0);
        told(x, "look", x.look(0, 0, 0, 5), 0);
        truthIs(x, 0, 0, 5, 5, 5, 1, 0);
        told(x, "look anew", x.look(0, 0, 0, 4), 0);
        truthIs(x, 0, 0, 4, 4, 5, 0, 1);
        told(x, "look where nothing is CLAIMED", x.look(0, 0, 19, 1), 0);
        truthIs(x, 0, 0, 5, 5, 5, 1, 0);
        told(x, "look anew: nothing is there", x.look(0, 0, 0, 0), 0);
        truthIs(x, 0, 0, 1, 1, 5, 0, 1);
        told(x, "claim", x.claim(0, 0, 7, 3), 0);
        truthIs(x, 0, 0, 1, 4, 8, 0, 1);
        told(x, "look: more than CLAIMED", x.look(0, 0, 0, 6), 0);
        truthIs(x, 0, 0, 7, 10, 8, 1, 0);
        told(x, "claim anew", x.claim(0, 0, 0, 8), 0);
        truthIs(x, 0, 0, 7, 10, 11, 1, 1);
        told(x, "claim anew", x.claim(0, 0, 0, 7), 0);
        truthIs(x, 0, 0, 7, 10, 10, 1, 0);
        told(x, "claim of none anew", x.claim(0, 0, 7, 0), 0);
        truthIs(x, 0, 0, 7, 7, 7, 1, 0);
        told(x, "target anew", x.target(0, 0, 7), 0);
        truthIs(x, 0, 0, 7, 7, 7, 1, 0);
        told(x, "target anew", x.target(0, 0, 8), 0);
        truthIs(x, 0, 0, 7, 7, 7, 0, 0);
        at("Terms VI: of a COUNCIL in a QUARTER");
        int[][] others = {{1, 0}, {0, 1}, {5, 19}, {5, 0}, {0, 19}};
        for (int[] o : others) {
            truthIs(x, o[0], o[1], 0, 0, 0, 0, 0);
        }
        at("Terms VI: STREETS 0 .. 19, of 1000 each");
        WarHouses y = new WarHouses();
        for (int s = 0; s < 20; s++) {
            told(y, "claim", y.claim(5, 19, s, 1000), 0);
        }
        truthIs(y, 5, 19, 0, 20_000, 20_000, 0, 0);
        for (int s = 0; s < 20; s++) {
            told(y, "look", y.look(5, 19, s, 1000), 0);
            truthIs(y, 5, 19, (s + 1) * 1000, 20_000, 20_000, 0, 0);
        }
        y.target(5, 19, 10_000);
        truthIs(y, 5, 19, 20_000, 20_000, 20_000, 1, 0);
        y.look(5, 19, 19, 999);
        truthIs(y, 5, 19, 19_999, 19_999, 20_000, 1, 1);
        truthIs(y, 5, 18, 0, 0, 0, 0, 0);
        truthIs(y, 4, 19, 0, 0, 0, 0, 0);
        at("promise 41: NONE");
        due("truth", y.truth(5, 19, 5), NONE);
        due("truth", y.truth(5, 20, 0), NONE);
    }

    // ------------------------------------------------------------ IMAGES, counts, status

    /** Tells one more of all that can be told, the n-th of its sort. */
    private static void tellAll(WarHouses x, int n) {
        String odd = "huts " + (50 + n) + ";squat " + n + ";points " + n + ";rent " + n + ";work brick fit " + n;
        String even = "work brick fit " + n + ";first hut;points " + n + ";points 1;squat " + n + ";rent " + n + ";rent 1";
        law(x, n % 2 == 0 ? even : odd, 0, 0);
        x.deliver(1, 0, 100 + n, 0);
        x.works(1, 1, 1, 0, 2, 1, n, 0);
        x.gangs(0, 10, 0, 0);
        x.gangs(2, n % 2, 0, 0);
        int p = x.plot(0, HUT, n, 0);
        x.start(p, n, 0);
        x.plot(0, 0, n, 0);
        x.start(p + 1, 0, 0);
        x.plot(2, 0, n, 0);
        x.start(p + 2, 0, 0);
        x.plot(3, STEEL, n, 0);
        x.start(p + 3, 0, 0);
        int e = x.entry(0, 0, n, 0, 0, 0, 0);
        x.entry(1, 0, 1, 0, 0, 0, 0);
        x.entry(2, 259, 1, 0, 0, 0, 0);
        x.mark(e, 0, 1);
        x.mark(e, 1, n);
        x.mark(e + 1, 0, 1);
        x.mark(e + 1, 1, n);
        x.offer(10 * n);
        x.squat(e + 2, p + 3, 10 * n);
        x.lodge(p, n, 0, 259);
        x.target(0, n, 0);
        x.claim(0, n, 0, n);
        x.look(0, n, 1, n);
    }

    private static int[] all(WarHouses x) {
        int[] seen = new int[100];
        int n = 0;
        for (int what = 0; what < 9; what++) {
            seen[n++] = x.count(what);
        }
        for (int what = 3; what < 5; what++) {
            seen[n++] = x.counts(what, 259, 259);
        }
        seen[n++] = x.need(0, 2, 5, 1, 259, 259);
        for (int m = 1; m < 3; m++) {
            seen[n++] = x.stock(m, 259, 259, 0);
        }
        for (int p = 0; p < 12; p++) {
            seen[n++] = x.built(p, 259, 0, 2);
            seen[n++] = x.lives(p, 30, 0);
            seen[n++] = x.lives(p, 30, 1);
            seen[n++] = x.rent(p, 30, 30);
            seen[n++] = x.under(p, 30);
        }
        for (int e = 0; e < 6; e++) {
            seen[n++] = x.family(e, 259);
        }
        seen[n++] = x.points(0, 30, 30);
        for (int q = 1; q < 4; q++) {
            seen[n++] = x.truth(0, q, 3) * 10 + x.truth(0, q, 4);
            seen[n++] = x.truth(0, q, 2) * 10 + x.truth(0, q, 0);
        }
        return seen;
    }

    private static void images() {
        at("promise 42: IMAGE k (0 .. 2) keeps all that was told and done; promise 43: BACK to IMAGE k");
        int[][] kept = new int[3][];
        for (int k = 0; k < 3; k++) {
            WarHouses one = new WarHouses();
            for (int n = 0; n <= k; n++) {
                tellAll(one, n + 1);
            }
            kept[k] = all(one);
            told(one, "image", one.image(k), 0);
            holds("image changes nothing", same(kept[k], all(one)));
        }
        int[][] ways = {{0, 2, 1}, {1, 1, 0}, {2, 0, 0}};
        for (int[] way : ways) {
            WarHouses x = new WarHouses();
            for (int k = 0; k < 3; k++) {
                told(x, "not kept", x.back(k), -2);
                tellAll(x, k + 1);
                told(x, "image", x.image(k), 0);
            }
            for (int k : way) {
                told(x, "back", x.back(k), 0);
                holds("as it was kept in " + k, same(kept[k], all(x)));
            }
        }
        at("promise 43: what was told behind an IMAGE in one way is not there in another");
        int[][] ends = new int[4][];
        for (int n = 2; n < 4; n++) {
            WarHouses way = new WarHouses();
            tellAll(way, 1);
            tellAll(way, n);
            ends[n] = all(way);
        }
        WarHouses from = new WarHouses();
        from.image(0);
        tellAll(from, 1);
        int[] one = all(from);
        from.image(1);
        from.back(0);
        tellAll(from, 2);
        int[] two = all(from);
        from.image(2);
        from.back(1);
        holds("as it was kept", same(one, all(from)));
        from.back(2);
        holds("as it was kept", same(two, all(from)));
        WarHouses both = new WarHouses();
        tellAll(both, 1);
        both.image(0);
        for (int n = 2; n < 4; n++) {
            both.back(0);
            tellAll(both, n);
            both.image(n - 1);
        }
        for (int n = 3; n > 1; n--) {
            both.back(n - 1);
            holds("as it was kept", same(ends[n], all(both)));
        }
        at("promise 43: told anew behind BACK");
        WarHouses y = new WarHouses();
        tellAll(y, 1);
        y.image(2);
        tellAll(y, 2);
        int[] again = all(y);
        y.back(2);
        tellAll(y, 2);
        holds("the same again", same(again, all(y)));
        at("promise 42: kept anew");
        WarHouses v = new WarHouses();
        tellAll(v, 1);
        v.image(2);
        tellAll(v, 3);
        holds("another", !same(again, all(v)));
        v.image(2);
        int[] three = all(v);
        tellAll(v, 4);
        v.back(2);
        holds("the latest", same(three, all(v)));
        at("promise 43: to an empty IMAGE");
        WarHouses z = new WarHouses();
        int[] none = all(z);
        z.image(0);
        tellAll(z, 1);
        told(z, "back", z.back(0), 0);
        holds("nothing told", same(none, all(z)));
        tellAll(z, 1);
        WarHouses w = new WarHouses();
        tellAll(w, 1);
        holds("as a new one", same(all(w), all(z)));
    }

    private static void backOfMarks() {
        at("promise 43: what is asked behind BACK is as it was kept");
        WarHouses x = new WarHouses();
        house(x, 0, 1, 0);
        listed(x, 1, 0);
        listed(x, 1, 0);
        marks(x, 0, 1, 1, NONE);
        marks(x, 1, 1, NONE, NONE);
        x.image(0);
        due("apart", x.family(1, 0), 1);
        marks(x, 1, NONE, 1, NONE);
        due("one FAMILY", x.family(1, 0), 0);
        x.image(1);
        x.back(0);
        due("apart", x.family(1, 0), 1);
        x.back(1);
        due("one FAMILY", x.family(1, 0), 0);
        x.offer(0);
        due("a roof for both", x.roof(1, 0), 0);
        x.back(0);
        x.offer(0);
        due("a roof for one", x.roof(1, 0), NONE);
        due("a roof for one", x.roof(0, 0), 0);
        at("promise 43: of the RUN, too");
        WarHouses y = new WarHouses();
        y.plot(0, 0, 1, 0);
        y.start(0, 3, 0);
        y.image(0);
        law(y, "need brick base bricks 1", 0, 0);
        due("needs", y.lacks(0, 3, 0), 4);
        y.image(1);
        y.back(0);
        due("none", y.lacks(0, 3, 0), 0);
        due("need", y.need(0, 0, 0, 1, 0, 0), 0);
        y.back(1);
        due("needs", y.lacks(0, 3, 0), 4);
        due("need", y.need(0, 0, 0, 1, 0, 0), 1);
    }

    private static boolean same(int[] one, int[] other) {
        return java.util.Arrays.equals(one, other);
    }

    private static void backOfLimits() {
        at("promise 43: what there is room for is as it was kept");
        WarHouses x = new WarHouses();
        house(x, 0, 1, 0);
        listed(x, 1, 0);
        for (int i = 0; i < 39; i++) {
            x.squat(0, 0, 0);
            x.out(0, 0);
        }
        for (int i = 0; i < 99; i++) {
            x.offer(0);
        }
        due("nobody is out of it", x.lives(0, 0, 0), 0);
        x.image(1);
        told(x, "the hundredth", x.offer(7), 0);
        told(x, "the next", x.offer(7), -5);
        x.back(1);
        told(x, "the hundredth again, in an earlier WEEK", x.offer(6), 0);
        told(x, "the next", x.offer(6), -5);
        told(x, "ahead of it", x.offer(5), -1);
        WarHouses y = new WarHouses();
        house(y, 0, 1, 0);
        listed(y, 1, 0);
        y.squat(0, 0, 3);
        y.image(0);
        y.out(0, 5);
        told(y, "nobody", y.out(0, 5), -3);
        y.back(0);
        told(y, "in an earlier WEEK", y.out(0, 2), -1);
        told(y, "they are in again", y.out(0, 4), 0);
        at("promise 43: (The TAPE is empty then, WISHES are none.)");
        WarHouses z = new WarHouses();
        z.plot(0, 0, 1, 0);
        z.plot(0, 0, 1, 0);
        z.wish(0);
        write(z, "huts 5");
        told(z, "image", z.image(0), 0);
        due("image leaves the TAPE", z.count(9), 6);
        due("image leaves WISHES", z.count(5), 1);
        told(z, "refused", z.back(1), -2);
        due("WISHES", z.count(5), 1);
        told(z, "back", z.back(0), 0);
        due("TAPE", z.count(9), 0);
        due("WISHES", z.count(5), 0);
        told(z, "start of what was WISHED", z.start(0, 0, 0), 1);
        told(z, "wish", z.wish(1), 1);
        told(z, "back", z.back(0), 0);
        told(z, "wish of what had a START", z.wish(0), 1);
        told(z, "act of an empty TAPE", z.act(0, 0), -6);
        due("feed", z.feed(0, 0, 0, 0, 0), 20);
        at("promise 42: -1; promise 43: -1; -2 it was not kept");
        told(z, "image", z.image(3), -1);
        told(z, "image", z.image(-1), -1);
        told(z, "back", z.back(3), -1);
        told(z, "back", z.back(-1), -1);
        told(z, "back", z.back(2), -2);
        told(z, "back", z.back(0), 0);
    }

    private static void counting() {
        at("promise 44: 0 ACTS, 1 DELIVERIES, 2 WORKS, 3 PLOTS, 4 STARTS, 5 WISHES, 6 ENTRIES, 7 moves, 8 SQUATTERS, 9 bytes");
        WarHouses x = new WarHouses();
        int[] want = new int[10];
        countsAre(x, want);
        law(x, "points have", 0, 0);
        want[0]++;
        countsAre(x, want);
        x.deliver(0, 0, 1, 0);
        want[1]++;
        countsAre(x, want);
        x.works(0, 1, 0, 0, 1, 1, 1, 0);
        want[2]++;
        countsAre(x, want);
        house(x, 0, 1, 0);
        want[3]++;
        want[4]++;
        countsAre(x, want);
        x.start(0, 3, 0);
        want[4]++;
        countsAre(x, want);
        house(x, 0, 1, 0);
        want[3]++;
        want[4]++;
        x.plot(0, 0, 1, 0);
        x.wish(2);
        want[3]++;
        want[5]++;
        countsAre(x, want);
        listed(x, 1, 0);
        listed(x, 1, 0);
        want[6] += 2;
        countsAre(x, want);
        x.squat(0, 1, 0);
        want[8]++;
        countsAre(x, want);
        x.offer(0);
        want[7] += 2;
        countsAre(x, want);
        x.feed(0, 0, 0, 0, 0);
        want[9] += 20;
        countsAre(x, want);
        x.gangs(0, 1, 0, 0);
        x.mark(0, 0, 0);
        x.lodge(0, 1, 0, 0);
        x.target(0, 0, 0);
        x.claim(0, 0, 0, 0);
        x.look(0, 0, 0, 0);
        x.image(0);
        countsAre(x, want);
        x.clear();
        x.end(3);
        want[5] = 0;
        want[9] = 3;
        countsAre(x, want);
        at("promise 44: NONE for others");
        due("count", x.count(10), NONE);
        due("count", x.count(-1), NONE);
    }

    private static void countsAre(WarHouses x, int[] want) {
        for (int what = 0; what < 10; what++) {
            due("count " + what, x.count(what), want[what]);
        }
    }

    private static void status() {
        at("promise 45: What the latest call was REFUSED by; 0 if it was not, or ahead of any");
        WarHouses x = new WarHouses();
        due("ahead of any", x.status(), 0);
        x.feed(0, 0, 0, 0, 0);
        x.end(-1);
        x.best(-1);
        due("ahead of any of those", x.status(), 0);
        int[] refused = {x.deliver(9, 0, 0, 0), x.status(), x.works(9, 0, 0, 0, 0, 0, 0, 0), x.status(), x.gangs(9, 0, 0, 0),
            x.status(), x.plot(9, 0, 0, 0), x.status(), x.entry(9, 0, 0, 0, 0, 0, 0), x.status(), x.target(9, 0, 0), x.status(),
            x.claim(9, 0, 0, 0), x.status(), x.look(9, 0, 0, 0), x.status(), x.image(9), x.status(), x.back(9), x.status(),
            x.offer(-1), x.status(), x.squat(0, 0, -1), x.status(), x.out(0, -1), x.status(), x.lodge(0, 0, 0, 0), x.status(),
            x.act(-1, 0), x.status(), x.start(0, -1, 0), x.status(), x.mark(0, 9, 0), x.status()};
        for (int i = 0; i < refused.length; i++) {
            due("refused by -1", refused[i], -1);
        }
        int[] missing = {x.start(0, 0, 0), x.status(), x.wish(0), x.status(), x.mark(0, 0, 0), x.status(), x.squat(0, 0, 0),
            x.status(), x.out(0, 0), x.status(), x.lodge(0, 1, 0, 0), x.status(), x.back(0), x.status()};
        for (int i = 0; i < missing.length; i++) {
            due("refused by -2", missing[i], -2);
        }
        at("promise 45: calls that aren't named there leave it");
        asks(x, -2);
        x.plot(0, 0, 1, 0);
        asks(x, 0);
        x.wish(0);
        x.wish(0);
        asks(x, -4);
        x.start(0, 0, 0);
        asks(x, -3);
        x.act(0, 0);
        asks(x, -6);
        at("promise 45: 0 if it was not");
        int[] accepted = {x.entry(0, 0, 1, 0, 0, 0, 0), x.mark(0, 0, 0), x.target(0, 0, 0), x.claim(0, 0, 0, 0),
            x.look(0, 0, 0, 0), x.image(0), x.offer(0)};
        for (int answer : accepted) {
            due("answer", answer, 0);
        }
        due("status", x.status(), 0);
        for (int i = 0; i < 60; i++) {
            x.gangs(0, 0, 0, 0);
        }
        due("status", x.status(), 0);
        x.gangs(0, 0, 0, 0);
        asks(x, -5);
        x.back(0);
        due("status", x.status(), 0);
    }

    private static void asks(WarHouses x, int status) {
        x.feed(0, 0, 0, 0, 0);
        x.end(0);
        x.fault();
        x.force(0, 0, 0, 0);
        x.counts(0, 0, 0);
        x.need(0, 0, 0, 1, 0, 0);
        x.stock(0, 0, 0, 0);
        x.built(0, 0, 0, 0);
        x.lacks(0, 0, 0);
        x.knock(0, 0);
        x.best(0);
        x.chosen(0);
        x.bound(0);
        x.judge(0, 0);
        x.family(0, 0);
        x.points(0, 0, 0);
        x.order(0, 0, 0, 0);
        x.beside(0, 0, 0, 0);
        x.lives(0, 0, 0);
        x.roof(0, 0);
        x.rent(0, 0, 0);
        x.under(0, 0);
        x.truth(0, 0, 0);
        x.count(99);
        due("status", x.status(), status);
        due("status again", x.status(), status);
    }

    public static void main(String[] args) {
        nothingYet();
        entries();
        families();
        points();
        orders();
        besides();
        homes();
        offered();
        whoIsOffered();
        chains();
        movesInOrder();
        kept();
        joined();
        squatters();
        squatting();
        rents();
        lodgers();
        truths();
        images();
        backOfMarks();
        backOfLimits();
        counting();
        status();
        finish("lists");
    }
}

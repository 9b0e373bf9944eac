/** Each promise of the document by itself: ordinary inputs, the edges that it names, and wrong inputs. */
public final class PromisesTest extends Checks {
    private static void faultIs(String text, int place) {
        WarHouses x = new WarHouses();
        told(x, "act of '" + text + "'", law(x, text, 0, 0), place == NONE ? 0 : -6);
        due("fault of '" + text + "'", x.fault(), place);
        due("tape behind '" + text + "'", x.count(9), 0);
    }

    private static void newObject() {
        at("promise 1");
        WarHouses x = new WarHouses();
        for (int what = 0; what < 10; what++) {
            due("count " + what, x.count(what), 0);
        }
        due("status", x.status(), 0);
        due("fault", x.fault(), NONE);
        due("chosen", x.chosen(0), NONE);
        due("chosen of shells", x.chosen(NONE), NONE);
        due("lives", x.lives(0, 0, 0), NONE);
        due("stock", x.stock(0, 259, 259, 0), 0);
        due("knock", x.knock(0, 1), 0);
        due("order", x.order(0, 0, 0, -1), 0);
        due("offer", x.offer(0), 0);
        due("best", x.best(0), 0);
        due("truth", x.truth(5, 19, 1), 0);
        due("back", x.back(0), -2);
    }

    private static void feedAndEnd() {
        at("promise 2");
        WarHouses x = new WarHouses();
        for (int i = 1; i <= 20; i++) {
            due("feed", x.feed(0, 0, 0, 0, 0), i * 20);
        }
        due("feed of a full tape", x.feed(0, 0, 0, 0, 0), NONE);
        due("bytes", x.count(9), 400);
        at("promise 3");
        due("end", x.end(401), NONE);
        due("end", x.end(-1), NONE);
        due("end", x.end(400), 400);
        due("end", x.end(381), 381);
        at("promise 2");
        due("feed beyond 400", x.feed(0, 0, 0, 0, 0), NONE);
        at("promise 3");
        due("end", x.end(380), 380);
        at("promise 2");
        due("feed to 400", x.feed(0, 0, 0, 0, 0), 400);
        at("promise 3");
        due("end", x.end(0), 0);
        due("end", x.end(1), NONE);
        at("promise 2");
        // "squa", "t 7;", "huts", " 9  ": the highest byte of each number comes first.
        due("feed", x.feed(0x73717561, 0x7420373b, 0x68757473, 0x20392020, 0x20202020), 20);
        due("act", x.act(0, 0), 0);
        due("counts", x.counts(4, 0, 0), 7);
        due("counts", x.counts(3, 0, 0), 9);
        due("feed of bytes above 127", x.feed(-1, -1, -1, -1, -1), 20);
        due("act of them", x.act(0, 0), -6);
        due("fault", x.fault(), 0);
    }

    private static void acts() {
        at("promise 4");
        WarHouses x = new WarHouses();
        int[][] wrongWeeks = {{-1, 0}, {260, 0}, {0, -1}, {0, 260}};
        for (int[] weeks : wrongWeeks) {
            write(x, "huts 1");
            told(x, "act", x.act(weeks[0], weeks[1]), -1);
            due("tape behind an act that was not read", x.count(9), 0);
            due("feed behind it", x.feed(0, 0, 0, 0, 0), 20);
            x.end(0);
        }
        due("fault of an act that was not read", x.fault(), NONE);
        due("acts", x.count(0), 0);
        write(x, "huts");
        told(x, "act", x.act(0, 0), -6);
        due("tape behind a text that can't be", x.count(9), 0);
        write(x, "huts 1");
        told(x, "act", x.act(259, 259), 0);
        due("tape", x.count(9), 0);
        for (int i = 1; i < 24; i++) {
            told(x, "act", law(x, "huts 1", 0, 0), i);
        }
        write(x, "huts");
        told(x, "act", x.act(0, 0), -5);
        due("tape behind an act without room", x.count(9), 0);
        write(x, "huts");
        told(x, "act", x.act(0, 260), -1);
        due("tape", x.count(9), 0);
        told(x, "act of nothing", x.act(0, 0), -5);
        due("acts", x.count(0), 24);
        at("promise 5");
        due("fault", x.fault(), NONE);
        faultIs("", 0);
        faultIs("   ", 3);
        faultIs("points 1   ", NONE);
        faultIs("  points 1", NONE);
        faultIs("points 1 ;  ", 12);
        faultIs("points 1 ; ; points 2", 11);
        faultIs("point 1", 0);
        faultIs("pointss 1", 0);
        faultIs("Points 1", 0);
        faultIs("pointsz 1", 0);
        faultIs("points1", NONE);
        faultIs("points 1a", 8);
        faultIs("points 00010000", NONE);
        faultIs("points 10001", 7);
        faultIs("points 99999999999999999999999", 7);
        faultIs("strike 23 clause 15", NONE);
        faultIs("strike 24 clause 15", 7);
        faultIs("strike 23 clause 16", 17);
        faultIs("strike 23 clauses 15", 10);
        faultIs("strike 1 clause 1 if 1 = 1", 18);
        faultIs("strike rooms clause 1", 7);
        faultIs("strike", 6);
        faultIs("strike 1", 8);
        faultIs("strike 1 clause", 15);
        faultIs("need steel", 10);
        faultIs("need steel fit", 14);
        faultIs("need steel fit steel", 20);
        faultIs("work hut", 8);
        faultIs("need steel fit steel 1", NONE);
        faultIs("need bricks fit steel 1", 5);
        faultIs("need brick fits steel 1", 11);
        faultIs("need brick fit brick 1", 15);
        faultIs("work hut shell bricks", 15);
        faultIs("licence hut", 11);
        faultIs("licence 1", 8);
        faultIs("first hut if week > 3", NONE);
        faultIs("first hut 1", 10);
        faultIs("huts 1 2", 7);
        faultIs("rent rooms * 3 + [week - 2] / 4 if not (week > 3 or rooms = 2) and ill < 1", NONE);
        faultIs("rent 1 if", 9);
        faultIs("rent 1 if not", 13);
        faultIs("rent 1 if 1 < 2 < 3", 16);
        faultIs("rent 1 if [1 < 2]", 13);
        faultIs("rent 1 if (1) < 2", 12);
        faultIs("rent 1 if (1 < 2", 16);
        faultIs("rent 1 if 1 < 2)", 15);
        faultIs("rent least[1,2,3]", 14);
        faultIs("rent most[1]", 11);
        faultIs("rent most 1", 10);
        faultIs("rent - 1", 5);
        faultIs("rent 1 + + 1", 9);
        faultIs("rent 1,2", 6);
        faultIs("rent if 1 = 1", 5);
        faultIs("rent 1 if week", 14);
        faultIs("rent 1 if 1 = 1 or", 18);
        faultIs("rent 1 if 1 = 1 and and", 20);
        faultIs("rent 1 if 1 = 1 and", 19);
        faultIs("rent 1 if 1 =", 13);
        faultIs("rent 1 *", 8);
        faultIs("rent 1 +", 8);
        faultIs("rent [[[[[[[[]]]]]]]]", 13);
        faultIs("rent " + times("most[1,", 8) + "1" + times("]", 8), NONE);
        faultIs("rent " + times("most[1,", 8) + "[1]" + times("]", 8), 61);
        faultIs("rent " + times("most[", 8) + "[1]" + times(",1]", 8), 45);
        faultIs(times("huts 1;", 15) + "huts 1", NONE);
        faultIs(times("huts 1;", 16), 112);
        faultIs(times("huts 1;", 16) + " huts 1", 113);
        faultIs("rent 1" + times("+1", 59), NONE);
        faultIs("rent 1" + times("+1", 60), 125);
        faultIs("rent 1" + times("+1", 58) + ";huts week", NONE);
        faultIs("rent 1" + times("+1", 58) + ";huts week+ill", 133);
        faultIs("rent " + times("[", 8) + "1" + times("]", 8), NONE);
        faultIs("rent " + times("[", 9) + "1" + times("]", 9), 13);
        faultIs("rent " + times("[", 8) + "least[1,2]" + times("]", 8), 13);
        faultIs("rent " + times("[", 7) + "least[1,2]" + times("]", 7), NONE);
        faultIs("rent 1 if " + times("(", 8) + "1=1" + times(")", 8), NONE);
        faultIs("rent 1 if " + times("(", 9) + "1=1" + times(")", 9), 18);
        faultIs("rent 1 if " + times("(", 4) + times("[", 5) + "1" + times("]", 5) + "=1" + times(")", 4), 18);
        faultIs("rent 1 if " + times("not ", 90) + "1=1", NONE);
        faultIs("rent 1\u00e9", 6);
        faultIs("rent 1\t", 6);
        WarHouses z = new WarHouses();
        law(z, "huts", 0, 0);
        due("fault", z.fault(), 4);
        write(z, "rent");
        z.act(0, 260);
        due("fault behind an act that read nothing", z.fault(), 4);
        z.act(0, 0);
        due("fault of a text of no bytes", z.fault(), 0);
        law(z, "huts 1", 0, 0);
        due("fault behind a good act", z.fault(), NONE);
    }

    private static void forces() {
        at("promise 6");
        WarHouses x = new WarHouses();
        law(x, "huts 1;huts 2;strike 0 clause 0;strike 1 clause 0", 5, 3);
        law(x, "strike 0 clause 1;strike 1 clause 0;strike 0 clause 9", 10, 6);
        law(x, "strike 1 clause 0", 20, 0);
        due("force", x.force(0, 0, 4, 3), 0);
        due("force", x.force(0, 0, 5, 2), 0);
        due("force", x.force(0, 0, 5, 3), 1);
        due("a strike does not strike its own act", x.force(0, 0, 259, 259), 1);
        due("force", x.force(0, 1, 10, 5), 1);
        due("force", x.force(0, 1, 10, 6), 0);
        due("a strike strikes no act told later", x.force(1, 0, 10, 6), 1);
        due("a struck strike", x.force(1, 0, 20, 6), 0);
        due("strikes no more", x.force(0, 1, 20, 6), 1);
        due("another WEEK", x.force(0, 1, 19, 6), 0);
        due("force", x.force(2, 0, 20, 0), 1);
        due("no act", x.force(3, 0, 20, 0), NONE);
        due("no act", x.force(-1, 0, 20, 0), NONE);
        due("no clause", x.force(2, 1, 20, 0), NONE);
        due("no clause", x.force(2, -1, 20, 0), NONE);
        due("no week", x.force(2, 0, 260, 0), NONE);
        due("no week", x.force(2, 0, -1, 0), NONE);
        due("no week", x.force(2, 0, 0, 260), NONE);
    }

    private static void valueIs(String sum, int week, int value) {
        WarHouses x = new WarHouses();
        law(x, "huts " + sum, 0, 0);
        due("huts " + sum + " in " + week, x.counts(3, week, 0), value);
    }

    private static void sums() {
        at("promise 7");
        valueIs("1 + 2 * 3", 0, 7);
        valueIs("[1 + 2] * 3", 0, 9);
        valueIs("10 - 3 - 2", 0, 5);
        valueIs("100 / 7 / 2 * 3", 0, 21);
        valueIs("[3 - 10] / 2 + 10", 0, 7);
        valueIs("7 - 9", 0, 0);
        valueIs("week * week", 12, 144);
        valueIs("rooms + persons + children + ill + waited + have", 12, 0);
        valueIs("10000 * 10000 * 10", 0, 1_000_000_000);
        valueIs("10000 * 10000 * 10 + 1", 0, NONE);
        valueIs("10000 * 10000 * 10 + 1 - 1", 0, NONE);
        valueIs("0 - 10000 * 10000 * 10", 0, 0);
        valueIs("0 - 10000 * 10000 * 10 - 1 + 5", 0, NONE);
        valueIs("5 / week", 0, NONE);
        valueIs("5 / week", 2, 2);
        valueIs("least[3, 1 / week]", 0, NONE);
        valueIs("most[3, week] - least[2, week]", 5, 3);
        valueIs("4 if week > 3 and week < 6", 3, NONE);
        valueIs("4 if week > 3 and week < 6", 5, 4);
        valueIs("4 if week < 3", 3, NONE);
        valueIs("4 if week > 3", 3, NONE);
        valueIs("least[7, week] + most[week, 5]", 6, 12);
        valueIs("4 if week = 1 or week = 2 and week = 3", 1, 4);
        valueIs("4 if (week = 1 or week = 2) and week = 3", 1, NONE);
        valueIs("4 if not week = 1", 1, NONE);
        valueIs("4 if not not week = 1", 1, 4);
        valueIs("4 if not week = 1 or week = 1", 1, 4);
        valueIs("4 if week = 0 or 1 / week = 1", 0, 4);
        valueIs("4 if 1 / week = 1 or week = 0", 0, NONE);
        valueIs("4 if week > 0 and 1 / week = 1 or week = 0", 0, 4);
        valueIs("4 if not 1 / week = 1", 0, NONE);
        valueIs("1 / 0 if week = 0", 0, NONE);
        WarHouses x = new WarHouses();
        law(x, "huts 1;huts 2 if week > 5;huts 1 / [week - 7];first hut;first brick if week = 9;licence steel week", 0, 0);
        law(x, "huts 50;first steel if week > 20;squat 3;licence steel 0 - 4 if week > 30", 12, 4);
        due("the last that holds", x.counts(3, 3, 0), 0);
        due("a broken one does not hold", x.counts(3, 7, 0), 2);
        due("huts", x.counts(3, 8, 0), 1);
        due("huts of the later act", x.counts(3, 12, 4), 50);
        due("huts, not known", x.counts(3, 12, 3), 0);
        due("first", x.counts(5, 0, 0), 2);
        due("first of all kinds together", x.counts(5, 9, 0), 0);
        due("first", x.counts(5, 21, 4), 1);
        due("squat", x.counts(4, 11, 4), NONE);
        due("squat", x.counts(4, 12, 4), 3);
        due("licence", x.counts(1, 30, 4), 30);
        due("licence below 0", x.counts(1, 31, 4), 0);
        due("licence without", x.counts(0, 31, 4), NONE);
        due("counts", x.counts(-1, 0, 0), NONE);
        due("counts", x.counts(6, 0, 0), NONE);
        due("counts", x.counts(3, 260, 0), NONE);
        due("counts", x.counts(3, 0, -1), NONE);
    }

    private static void needs() {
        at("promise 8");
        WarHouses x = new WarHouses();
        law(x, "need steel shell steel rooms * 2 + week;need steel shell coal 3 - rooms;work steel shell rooms + 1", 0, 0);
        law(x, "need steel shell steel 1 / 0;need steel shell steel 99 if rooms > 5", 3, 2);
        due("need", x.need(1, 1, 2, 4, 1, 0), 9);
        due("need", x.need(1, 1, 2, 6, 3, 2), 99);
        due("need", x.need(1, 1, 2, 6, 3, 1), 15);
        due("need below 0", x.need(1, 1, 3, 4, 0, 0), 0);
        due("work", x.need(1, 1, 5, 4, 0, 0), 5);
        due("need without", x.need(1, 1, 0, 4, 0, 0), 0);
        due("need of another stage", x.need(1, 0, 2, 4, 0, 0), 0);
        due("need of another kind", x.need(0, 1, 2, 4, 0, 0), 0);
        due("need", x.need(-1, 0, 0, 1, 0, 0), NONE);
        due("need", x.need(0, 3, 0, 1, 0, 0), NONE);
        due("need", x.need(0, -1, 0, 1, 0, 0), NONE);
        due("need", x.need(0, 0, 6, 1, 0, 0), NONE);
        due("need", x.need(0, 0, -1, 1, 0, 0), NONE);
        due("need", x.need(0, 0, 0, 0, 0, 0), NONE);
        due("need", x.need(0, 0, 0, 1, 260, 0), NONE);
        due("need", x.need(0, 0, 0, 1, 0, 260), NONE);
    }

    private static void telling() {
        at("promise 9");
        WarHouses x = new WarHouses();
        told(x, "deliver", x.deliver(-1, 0, 1, 0), -1);
        told(x, "deliver", x.deliver(0, -1, 1, 0), -1);
        told(x, "deliver", x.deliver(0, 0, 0, 0), -1);
        told(x, "deliver", x.deliver(0, 0, 100_001, 0), -1);
        told(x, "deliver", x.deliver(0, 0, 1, 260), -1);
        for (int i = 1; i <= 120; i++) {
            told(x, "deliver", x.deliver(4, 259, 100_000, 259), i);
        }
        told(x, "deliver", x.deliver(4, 0, 1, 0), -5);
        told(x, "deliver", x.deliver(4, 0, 0, 0), -1);
        due("deliveries", x.count(1), 120);
        due("stock of all", x.stock(4, 259, 259, 26), 12_000_000);
        due("stock, not known", x.stock(4, 259, 258, 0), 0);
        at("promise 10");
        told(x, "works", x.works(5, 0, 0, 0, 0, 1, 0, 0), -1);
        told(x, "works", x.works(0, -1, 0, 0, 0, 1, 0, 0), -1);
        told(x, "works", x.works(0, 0, -1, 0, 0, 1, 0, 0), -1);
        told(x, "works", x.works(0, 0, 0, 1001, 0, 1, 0, 0), -1);
        told(x, "works", x.works(0, 0, 0, 0, 5, 1, 0, 0), -1);
        told(x, "works", x.works(0, 0, 0, 0, 0, 0, 0, 0), -1);
        told(x, "works", x.works(0, 0, 0, 0, 0, 10_001, 0, 0), -1);
        told(x, "works", x.works(0, 0, 0, 0, 0, 1, 101, 0), -1);
        told(x, "works", x.works(0, 0, 0, 0, 0, 1, -1, 0), -1);
        told(x, "works", x.works(0, 0, 0, 0, 0, 1, 0, 260), -1);
        for (int i = 0; i < 8; i++) {
            told(x, "works", x.works(0, 0, 1, 0, 3, 10_000, 100, 0), i);
        }
        told(x, "works", x.works(0, 0, 0, 0, 0, 1, 0, 0), -5);
        due("works", x.count(2), 8);
        due("the greatest stock", x.stock(3, 259, 0, 0), 2_080_000_000);
        at("promise 11");
        x = new WarHouses();
        told(x, "gangs", x.gangs(-1, 0, 0, 0), -1);
        told(x, "gangs", x.gangs(6, 0, 0, 0), -1);
        told(x, "gangs", x.gangs(0, 51, 0, 0), -1);
        told(x, "gangs", x.gangs(0, -1, 0, 0), -1);
        told(x, "gangs", x.gangs(0, 0, 260, 0), -1);
        told(x, "gangs", x.gangs(0, 0, 0, -1), -1);
        for (int i = 1; i <= 60; i++) {
            told(x, "gangs", x.gangs(5, 50, 0, 0), i);
        }
        told(x, "gangs", x.gangs(0, 0, 0, 0), -5);
        at("promise 12");
        told(x, "plot", x.plot(6, 0, 1, 0), -1);
        told(x, "plot", x.plot(0, -1, 1, 0), -1);
        told(x, "plot", x.plot(0, 0, 0, 0), -1);
        told(x, "plot", x.plot(0, 0, 7, 0), -1);
        told(x, "plot", x.plot(0, 0, 1, 260), -1);
        for (int i = 0; i < 30; i++) {
            told(x, "plot", x.plot(5, 2, 6, 259), i);
        }
        told(x, "plot", x.plot(0, 0, 1, 0), -5);
        due("plots", x.count(3), 30);
        at("promise 13");
        told(x, "start", x.start(30, 0, 0), -2);
        told(x, "start", x.start(-1, 0, 0), -2);
        told(x, "start", x.start(30, 260, 0), -1);
        told(x, "start", x.start(0, 0, 260), -1);
        told(x, "start", x.start(0, -1, 0), -1);
        for (int i = 1; i <= 59; i++) {
            told(x, "start", x.start(7, 259, 259), i);
        }
        x.wish(3);
        told(x, "start", x.start(8, 0, 0), 60);
        told(x, "start of a wish ahead of no room", x.start(3, 0, 0), -3);
        told(x, "start", x.start(8, 0, 0), -5);
        due("starts", x.count(4), 60);
    }

    private static void stocks() {
        at("promise 14");
        WarHouses x = new WarHouses();
        x.deliver(0, 2, 10, 0);
        x.deliver(1, 2, 7, 5);
        x.works(0, 2, 1, 3, 4, 5, 9, 3);
        due("stock", x.stock(0, 1, 5, 0), 0);
        due("stock", x.stock(0, 2, 5, 0), 10);
        due("stock", x.stock(1, 2, 5, 0), 7);
        due("batches by what there is of both", x.stock(4, 3, 5, 0), 10);
        due("stock", x.stock(0, 3, 5, 0), 6);
        due("stock", x.stock(1, 3, 5, 0), 1);
        due("timber is not known", x.stock(4, 259, 4, 0), 0);
        due("late bricks", x.stock(0, 2, 5, 3), 0);
        due("late bricks", x.stock(0, 5, 5, 3), 6);
        due("timber is not late", x.stock(1, 2, 5, 3), 7);
        due("late bricks", x.stock(4, 5, 5, 3), 10);
        due("stock", x.stock(5, 0, 0, 0), NONE);
        due("stock", x.stock(-1, 0, 0, 0), NONE);
        due("stock", x.stock(0, 260, 0, 0), NONE);
        due("stock", x.stock(0, 0, 260, 0), NONE);
        due("stock", x.stock(0, 0, 0, -1), NONE);
        due("stock", x.stock(0, 0, 0, 27), NONE);
        x.deliver(0, 259, 4, 0);
        due("bricks that come behind the last week", x.stock(0, 259, 0, 1), 10);
        WarHouses y = new WarHouses();
        y.deliver(2, 0, 11, 0);
        y.works(2, 2, 2, 3, 0, 1, 100, 0);
        y.works(0, 1, 3, 0, 3, 4, 1, 0);
        due("of one material together", y.stock(2, 0, 0, 0), 1);
        due("the next work has it in the same week", y.stock(3, 0, 0, 0), 4);
        due("one batch of two", y.stock(0, 0, 0, 0), 1);
    }

    private static void building() {
        at("promise 15");
        WarHouses x = new WarHouses();
        law(x, "need brick shell bricks 10;work brick base 1;work brick fit 2;first steel;licence brick 2", 0, 0);
        x.plot(0, 0, 1, 0);
        x.plot(0, 0, 1, 0);
        x.plot(0, 0, 1, 0);
        x.plot(0, 1, 1, 4);
        x.gangs(0, 1, 0, 0);
        x.gangs(0, 2, 6, 0);
        x.gangs(0, 0, 6, 7);
        x.deliver(0, 3, 20, 0);
        x.start(1, 0, 0);
        x.start(0, 1, 0);
        x.start(2, 12, 0);
        x.start(3, 0, 9);
        due("base of the earlier start", x.built(1, 0, 0, 0), 0);
        due("it waits for bricks", x.built(1, 0, 0, 4), 3);
        due("no work: at once", x.built(1, 0, 0, 1), 3);
        due("and the next stage in this week still", x.built(1, 0, 0, 5), 3);
        due("two weeks of a gang", x.built(1, 0, 0, 2), 4);
        due("base of the other", x.built(0, 0, 0, 0), 1);
        due("bricks for both", x.built(0, 0, 0, 4), 3);
        due("but the gang comes later", x.built(0, 0, 0, 2), 6);
        due("licensed", x.built(0, 0, 0, 6), 1);
        due("the third of a quarter with two licences", x.built(2, 0, 0, 6), 0);
        due("so it never begins", x.built(2, 0, 0, 3), NONE);
        due("without a start", x.built(3, 0, 0, 6), 0);
        due("without a start", x.built(3, 0, 0, 3), NONE);
        due("started, not cleared", x.built(3, 9, 0, 3), 4);
        due("done at once, without a gang", x.built(3, 9, 0, 2), 4);
        due("gangs of alike weeks: told last", x.built(0, 7, 0, 2), NONE);
        due("late", x.built(1, 0, 2, 2), 6);
        due("plot", x.built(4, 0, 0, 0), NONE);
        due("plot", x.built(-1, 0, 0, 0), NONE);
        due("known", x.built(0, 260, 0, 0), NONE);
        due("late", x.built(0, 0, 27, 0), NONE);
        due("late", x.built(0, 0, -1, 0), NONE);
        due("what", x.built(0, 0, 0, 7), NONE);
        due("what", x.built(0, 0, 0, -1), NONE);
        x.start(0, 0, 0);
        due("the first told of the known counts", x.built(0, 0, 0, 0), 1);
        x.start(2, 13, 20);
        due("a licence of its start's quarter", x.built(2, 20, 0, 6), 0);
        at("promise 16");
        due("done", x.lacks(1, 4, 0), 0);
        due("waits for a gang", x.lacks(0, 3, 0), 5);
        due("waits for needs", x.lacks(0, 2, 0), 4);
        due("waits for the week's end", x.lacks(0, 1, 0), 5);
        due("no start by then", x.lacks(0, 0, 0), 1);
        due("no start by then", x.lacks(2, 11, 0), 1);
        due("no licence", x.lacks(2, 12, 0), 2);
        due("no start", x.lacks(3, 200, 8), 1);
        due("not cleared", x.lacks(3, 3, 9), 3);
        due("done", x.lacks(3, 4, 9), 0);
        due("plot", x.lacks(4, 0, 0), NONE);
        due("week", x.lacks(0, 260, 0), NONE);
        due("week", x.lacks(0, 0, -1), NONE);
        WarHouses y = new WarHouses();
        law(y, "need hut shell kits 1", 0, 0);
        y.plot(0, 2, 1, 0);
        y.start(0, 3, 0);
        due("a stage of no work was over, the next one waits for needs", y.lacks(0, 3, 0), 4);
        y.plot(0, 2, 1, 6);
        y.start(1, 2, 0);
        due("not cleared", y.lacks(1, 5, 0), 3);
        due("cleared in this week", y.lacks(1, 6, 0), 4);
    }

    private static void firstAndOrder() {
        at("promise 15");
        WarHouses x = new WarHouses();
        law(x, "need brick base kits 1;need hut base kits 1;need steel base kits 1;first hut if week = 5", 0, 0);
        x.plot(0, 0, 1, 0);
        x.plot(0, 1, 1, 0);
        x.plot(0, 2, 1, 0);
        x.start(0, 2, 0);
        x.start(1, 1, 0);
        x.start(2, 3, 0);
        x.deliver(4, 4, 1, 0);
        due("the earlier start has it", x.built(1, 0, 0, 2), 4);
        x.deliver(4, 5, 1, 0);
        due("the kind that is first has it", x.built(2, 0, 0, 2), 5);
        x.deliver(4, 6, 1, 0);
        due("then the other", x.built(0, 0, 0, 2), 6);
        WarHouses y = new WarHouses();
        law(y, "work hut base week;need hut base kits 5;need hut base coal 1", 0, 0);
        y.plot(2, 2, 1, 0);
        y.start(0, 0, 0);
        y.gangs(2, 1, 0, 0);
        y.deliver(4, 0, 9, 0);
        y.deliver(3, 4, 1, 0);
        due("none is taken, if any lacks", y.stock(4, 3, 0, 0), 9);
        due("all at once", y.stock(4, 4, 0, 0), 4);
        due("work as told in the week of taking", y.built(0, 0, 0, 0), 7);
        WarHouses z = new WarHouses();
        law(z, "licence brick 1;licence hut 0", 0, 0);
        for (int c = 0; c < 2; c++) {
            z.plot(c, 0, 1, 0);
            z.plot(c, 0, 1, 0);
        }
        z.plot(0, 2, 1, 0);
        z.plot(0, 1, 1, 0);
        z.start(0, 12, 0);
        z.start(1, 13, 0);
        z.start(2, 5, 0);
        z.start(3, 4, 0);
        z.start(4, 0, 0);
        z.start(5, 0, 0);
        due("one a quarter", z.built(0, 0, 0, 6), 1);
        due("one a quarter", z.built(1, 0, 0, 6), 1);
        due("the earlier week ahead of the lower number", z.built(2, 0, 0, 6), 0);
        due("each council by itself", z.built(3, 0, 0, 6), 1);
        due("none at all", z.built(4, 0, 0, 6), 0);
        due("without a licence clause all", z.built(5, 0, 0, 6), 1);
        law(z, "licence brick 2", 1, 0);
        due("by the quarter's first week", z.built(2, 0, 0, 6), 0);
        law(z, "licence brick 2", 0, 3);
        due("as known", z.built(2, 2, 0, 6), 0);
        due("as known", z.built(2, 3, 0, 6), 1);
        due("as known, asked again", z.built(2, 2, 0, 6), 0);
        WarHouses w = new WarHouses();
        law(w, "licence steel week / 13;need steel base kits 1;need hut base kits 1", 0, 0);
        law(w, "first hut", 14, 0);
        for (int i = 0; i < 3; i++) {
            w.plot(0, 1, 1, 0);
            w.start(i, 6 + i * 7, 0);
        }
        due("none in the first quarter", w.built(0, 0, 0, 6), 0);
        due("one in the next", w.built(1, 0, 0, 6), 1);
        due("one in the next", w.built(2, 0, 0, 6), 0);
        w.plot(0, 2, 1, 0);
        w.start(3, 14, 0);
        w.deliver(4, 14, 1, 0);
        due("first from a later week on", w.built(3, 0, 0, 2), 14);
        due("so the other waits", w.lacks(1, 14, 0), 4);
    }

    private static void knocks() {
        at("promise 17");
        WarHouses x = new WarHouses();
        law(x, "need brick base bricks 10;need steel base timber 1", 0, 0);
        x.plot(0, 0, 1, 0);
        x.plot(0, 1, 1, 0);
        x.plot(0, 0, 1, 0);
        x.plot(0, 0, 1, 0);
        x.deliver(0, 5, 10, 0);
        x.deliver(0, 250, 10, 0);
        x.deliver(1, 0, 1, 0);
        x.start(0, 0, 0);
        x.start(1, 0, 0);
        x.start(2, 1, 0);
        x.start(3, 2, 0);
        due("both brick houses", x.knock(0, 4), 8);
        due("one beyond the last week counts as of 260", x.knock(0, 26), 36);
        due("late", x.knock(0, 0), NOTHING);
        due("late", x.knock(0, 27), NOTHING);
        due("known", x.knock(-1, 1), NOTHING);
        due("known", x.knock(260, 1), NOTHING);
        WarHouses y = new WarHouses();
        law(y, "need brick base bricks 1;need brick base timber 5;need hut base timber 5;first brick", 0, 0);
        y.plot(0, 0, 1, 0);
        y.plot(0, 2, 1, 0);
        y.start(0, 0, 0);
        y.start(1, 0, 0);
        y.deliver(0, 0, 1, 0);
        y.deliver(1, 0, 5, 0);
        y.deliver(1, 9, 5, 0);
        due("what one loses another gains", y.knock(0, 3), 0);
        due("both", y.built(1, 0, 3, 2), 0);
        due("both", y.built(0, 0, 3, 2), 9);
    }

    private static void choices() {
        at("promise 18");
        WarHouses x = new WarHouses();
        for (int i = 0; i < 9; i++) {
            x.plot(0, 2, 1 + i % 3, 0);
        }
        x.start(8, 0, 259);
        told(x, "wish", x.wish(9), -2);
        told(x, "wish", x.wish(-1), -2);
        told(x, "wish of one with a start", x.wish(8), -3);
        for (int i = 0; i < 6; i++) {
            told(x, "wish", x.wish(i), i + 1);
        }
        told(x, "wish", x.wish(0), -4);
        told(x, "wish", x.wish(6), -5);
        due("wishes", x.count(5), 6);
        at("promise 20");
        due("best", x.best(0), 12);
        at("promise 21");
        due("chosen", x.chosen(5), 1);
        due("chosen", x.chosen(6), NONE);
        due("chosen", x.chosen(-2), NONE);
        at("promise 19");
        due("clear", x.clear(), 6);
        due("clear", x.clear(), 0);
        due("wishes", x.count(5), 0);
        at("promise 21");
        due("the latest best is kept", x.chosen(5), 1);
        at("promise 20");
        due("best", x.best(-1), NONE);
        due("best", x.best(20), NONE);
        at("promise 21");
        due("and one that can't be leaves it", x.chosen(5), 1);
        WarHouses y = new WarHouses();
        law(y, "need hut base kits 12 - week;work hut shell 3;work brick base 20", 0, 0);
        y.gangs(0, 1, 0, 0);
        y.deliver(4, 0, 14, 0);
        y.plot(0, 2, 2, 0);
        y.plot(0, 2, 3, 0);
        y.plot(1, 0, 4, 0);
        y.wish(0);
        y.wish(1);
        y.wish(2);
        at("promise 20");
        due("the second hut is begun later, when it needs less", y.best(0), 5);
        at("promise 21");
        due("chosen", y.chosen(0), 2);
        due("the first of rows that are alike", y.chosen(1), 2);
        due("no shell of the brick house", y.chosen(2), 0);
        due("shells", y.chosen(NONE), 0);
        at("promise 22");
        due("bound", y.bound(0), 5);
        due("bound", y.bound(-1), NONE);
        due("bound", y.bound(20), NONE);
        at("promise 23");
        due("a shell", y.judge(0, 1 << 4), 1);
        due("the first alone", y.judge(0, 1), 20);
        due("both at once: the needs of the other fall till there is enough", y.judge(0, 1 + (1 << 2)), 21);
        due("as the best", y.judge(0, 2 + (3 << 2)), 50);
        due("none", y.judge(0, 0), 0);
        due("bits beyond", y.judge(0, 64), NONE);
        due("bits beyond", y.judge(0, -1), NONE);
        due("quarter", y.judge(20, 0), NONE);
        due("quarter", y.judge(-1, 0), NONE);
        at("promise 22");
        WarHouses w = new WarHouses();
        law(w, "work hut base 20 - 2 * week", 0, 0);
        w.gangs(0, 1, 0, 0);
        w.plot(0, 2, 4, 0);
        w.wish(0);
        due("in time only if it is begun last", w.bound(0), 4);
        at("promise 23");
        due("begun first", w.judge(0, 1), 1);
        due("begun last", w.judge(0, 3), 40);
        due("in the next quarter at once", w.judge(1, 1), 40);
        due("and again in the first", w.judge(0, 2), 1);
        WarHouses z = new WarHouses();
        z.plot(0, 0, 2, 20);
        z.plot(0, 0, 3, 0);
        z.wish(0);
        z.wish(1);
        at("promise 22");
        due("bound: the other is cleared too late", z.bound(0), 3);
        due("bound", z.bound(1), 5);
        due("best of the later quarter", z.best(1), 5);
        due("starts are not told by a choice", z.count(4), 0);
        at("promise 20");
        law(z, "licence brick 1", 13, 0);
        due("one licence in the quarter", z.best(1), 3);
        at("promise 21");
        due("so the one with more rooms", z.chosen(0), 0);
        due("so the one with more rooms", z.chosen(1), 1);
        z.start(0, 0, 0);
        z.clear();
        z.wish(1);
        at("promise 20");
        due("best", z.best(1), 3);
        z.plot(0, 0, 1, 0);
        z.start(2, 13, 14);
        due("what becomes known later is not known then", z.best(1), 3);
        z.start(2, 14, 13);
        due("a start known then, in a later week, is behind it", z.best(1), 3);
        z.plot(0, 0, 1, 0);
        z.start(3, 13, 13);
        due("and one in the same week with a higher number too", z.best(1), 3);
        at("promise 23");
        due("but ahead of a later start", z.judge(1, 2), 0);
    }

    private static void families() {
        at("promise 24");
        WarHouses x = new WarHouses();
        told(x, "entry", x.entry(6, 0, 1, 0, 0, 0, 0), -1);
        told(x, "entry", x.entry(0, 260, 1, 0, 0, 0, 0), -1);
        told(x, "entry", x.entry(0, 0, 0, 0, 0, 0, 0), -1);
        told(x, "entry", x.entry(0, 0, 21, 0, 0, 0, 0), -1);
        told(x, "entry", x.entry(0, 0, 3, 3, 0, 0, 0), -1);
        told(x, "entry", x.entry(0, 0, 3, -1, 0, 0, 0), -1);
        told(x, "entry", x.entry(0, 0, 1, 0, 10, 0, 0), -1);
        told(x, "entry", x.entry(0, 0, 1, 0, 0, 2, 0), -1);
        told(x, "entry", x.entry(0, 0, 1, 0, 0, 0, 260), -1);
        for (int i = 0; i < 60; i++) {
            told(x, "entry", x.entry(i % 6, 0, 20, 19, 9, 1, i == 1 ? 10 : 0), i);
        }
        told(x, "entry", x.entry(0, 0, 1, 0, 0, 0, 0), -5);
        due("entries", x.count(6), 60);
        at("promise 25");
        told(x, "mark", x.mark(60, 0, 0), -2);
        told(x, "mark", x.mark(-1, 0, 0), -2);
        told(x, "mark", x.mark(60, 3, 0), -1);
        told(x, "mark", x.mark(0, -1, 0), -1);
        told(x, "mark", x.mark(0, 0, 10_000), -1);
        told(x, "mark", x.mark(0, 0, NONE), -1);
        told(x, "mark", x.mark(0, 0, 0), 0);
        told(x, "mark", x.mark(0, 0, 0), -4);
        told(x, "mark", x.mark(0, 1, 9999), 0);
        at("promise 26");
        x.mark(1, 0, 0);
        x.mark(1, 1, 9999);
        x.mark(1, 2, 5);
        x.mark(2, 1, 9999);
        due("one mark is not enough", x.family(2, 20), 2);
        x.mark(2, 2, 5);
        due("by one in between", x.family(2, 10), 0);
        due("that must be known", x.family(2, 9), 2);
        due("not known", x.family(1, 9), NONE);
        due("known", x.family(1, 10), 0);
        due("none that is known of both differs", x.mark(2, 0, 1), 0);
        due("none that is known of both differs", x.family(2, 10), 2);
        due("family", x.family(60, 0), NONE);
        due("family", x.family(-1, 0), NONE);
        due("family", x.family(0, 260), NONE);
        due("family", x.family(0, -1), NONE);
        x.mark(5, 0, 7);
        x.mark(5, 1, 7);
        x.mark(4, 1, 7);
        x.mark(4, 2, 7);
        x.mark(3, 0, 8);
        x.mark(3, 1, 7);
        due("a chain in which the ends differ", x.family(5, 0), 5);
        x.mark(9, 0, 7);
        x.mark(9, 1, 7);
        x.mark(9, 2, 7);
        due("joined by the last", x.family(5, 0), 4);
        due("joined by the last", x.family(9, 0), 4);
        due("others are not", x.family(6, 0), 6);
        due("others are not", x.family(0, 0), 0);
        due("others are not", x.family(3, 0), 3);
    }

    private static void ordering() {
        at("promise 27");
        WarHouses x = new WarHouses();
        law(x, "points persons * 100 + children * 10 + ill;points waited * 1000;points have + rooms if week > 3;points 1 / have",
            0, 0);
        x.entry(0, 5, 4, 2, 3, 1, 2);
        due("points", x.points(0, 3, 2), 421);
        due("points, not yet on the list", x.points(0, 4, 2), 424);
        due("points", x.points(0, 8, 2), 3424);
        due("not known", x.points(0, 8, 1), NOTHING);
        due("no entry", x.points(1, 8, 2), NOTHING);
        due("no entry", x.points(-1, 8, 2), NOTHING);
        due("no week", x.points(0, -1, 2), NOTHING);
        due("no week", x.points(0, 0, 260), NOTHING);
        law(x, times("points 10000 * 10000 * 10;", 3) + "points 1", 9, 0);
        law(x, times("points 0 - 10000 * 10000 * 10;", 9) + "points 1", 10, 0);
        due("more", x.points(0, 9, 2), 1_000_000_000);
        due("so far below 0", x.points(0, 10, 2), -1_000_000_000);
        at("promise 28");
        x.entry(0, 5, 5, 2, 3, 1, 2);
        due("order goes by what they are", x.order(0, 9, 2, 0), 1);
        WarHouses y = new WarHouses();
        law(y, "points have", 0, 0);
        y.entry(0, 3, 1, 0, 5, 0, 0);
        y.entry(0, 2, 1, 0, 5, 0, 0);
        y.entry(0, 2, 1, 0, 5, 0, 4);
        y.entry(0, 9, 1, 0, 7, 0, 0);
        y.entry(1, 0, 1, 0, 9, 0, 0);
        due("on the list", y.order(0, 8, 3, -1), 2);
        due("on the list", y.order(0, 9, 4, -1), 4);
        due("most points", y.order(0, 9, 4, 0), 3);
        due("the earlier week", y.order(0, 9, 4, 1), 1);
        due("the lower number", y.order(0, 9, 4, 2), 2);
        due("last", y.order(0, 9, 4, 3), 0);
        due("none", y.order(0, 9, 4, 4), NONE);
        due("none", y.order(0, 9, 4, -2), NONE);
        due("council", y.order(-1, 9, 4, -1), NONE);
        due("council", y.order(6, 9, 4, -1), NONE);
        due("week", y.order(0, 260, 4, -1), NONE);
        due("week", y.order(0, 0, 260, -1), NONE);
        at("promise 29");
        law(y, "points 9 if waited > 6;points week - 9", 0, 6);
        due("beside", y.beside(0, 9, 4, 6), 2);
        due("of those known in both", y.beside(0, 9, 6, 3), 1);
        due("the other way round", y.beside(0, 9, 3, 6), 1);
        due("beside", y.beside(0, 9, 6, 6), 0);
        due("council", y.beside(6, 0, 0, 0), NONE);
        due("week", y.beside(0, 260, 0, 0), NONE);
        due("week", y.beside(0, 0, -1, 0), NONE);
        due("week", y.beside(0, 0, 0, 260), NONE);
    }

    private static void offers() {
        at("promise 30");
        WarHouses x = new WarHouses();
        told(x, "offer", x.offer(-1), -1);
        told(x, "offer", x.offer(260), -1);
        law(x, "points persons;huts 10", 0, 0);
        // Rooms 1, 2, 3, the smallest first; three families that fit into one, two and three rooms at least.
        for (int i = 0; i < 3; i++) {
            x.plot(0, i == 1 ? 2 : 0, i + 1, 0);
            x.start(i, i * 2, 0);
        }
        x.entry(0, 0, 2, 0, 0, 0, 0);
        x.entry(0, 0, 1, 0, 0, 0, 0);
        x.entry(0, 0, 7, 0, 0, 0, 0);
        told(x, "to the first that fits", x.offer(0), 1);
        told(x, "nothing is free", x.offer(1), 0);
        told(x, "a chain of two", x.offer(2), 2);
        told(x, "a chain of three, as seven are too many", x.offer(4), 2);
        at("promise 31");
        due("lives", x.lives(2, 4, 0), 0);
        due("in its chain", x.lives(2, 4, 2), 0);
        due("lives", x.lives(1, 4, 0), 1);
        due("behind one move", x.lives(1, 4, 2), 1);
        due("since", x.lives(1, 4, 1), 4);
        due("nobody", x.lives(0, 4, 0), NONE);
        due("ahead of it", x.lives(1, 3, 0), 0);
        due("ahead of it", x.lives(0, 3, 0), 1);
        due("ahead of it", x.lives(0, 1, 0), 0);
        due("since", x.lives(0, 1, 1), 0);
        due("till the hut's end", x.lives(1, 11, 0), 1);
        due("till the hut's end", x.lives(1, 12, 0), NONE);
        due("plot", x.lives(3, 0, 0), NONE);
        due("plot", x.lives(-1, 0, 0), NONE);
        due("week", x.lives(0, 260, 0), NONE);
        due("what", x.lives(0, 0, 3), NONE);
        due("what", x.lives(0, 0, -1), NONE);
        at("promise 32");
        due("roof", x.roof(0, 4), 2);
        due("roof", x.roof(0, 3), 1);
        due("roof", x.roof(1, 11), 1);
        due("roof", x.roof(1, 12), NONE);
        due("roof", x.roof(2, 4), NONE);
        due("roof", x.roof(3, 4), NONE);
        due("roof", x.roof(0, 260), NONE);
        at("promise 30");
        told(x, "a week ahead of the last", x.offer(3), -1);
        law(x, "huts 1", 0, 5);
        told(x, "they live on there, though it is known to be no home", x.offer(6), 0);
        at("promise 31");
        due("they live on there", x.lives(1, 11, 0), 1);
        at("promise 30");
        told(x, "the small one is free for them then", x.offer(12), 1);
        at("promise 31");
        due("lives", x.lives(0, 12, 0), 1);
        due("moves", x.count(7), 6);
        at("promise 30");
        WarHouses y = new WarHouses();
        for (int i = 0; i < 100; i++) {
            told(y, "offer", y.offer(0), 0);
        }
        told(y, "offer", y.offer(0), -5);
        told(y, "offer", y.offer(-1), -1);
    }

    private static void chains() {
        at("promise 30");
        WarHouses x = new WarHouses();
        law(x, "points have", 0, 0);
        for (int i = 0; i < 5; i++) {
            x.plot(0, 0, i + 1, 0);
            x.start(i, 0, 0);
        }
        for (int i = 0; i < 6; i++) {
            x.entry(0, 0, 1, 0, i, 0, 0);
        }
        told(x, "one more in each plot's chain", x.offer(0), 15);
        due("the last of the last chain", x.lives(0, 0, 0), 1);
        due("the last of the last chain", x.lives(0, 0, 2), 4);
        x.plot(0, 0, 6, 0);
        x.start(5, 3, 0);
        told(x, "a chain through all", x.offer(3), 6);
        due("moves of all offers", x.count(7), 21);
        at("promise 31");
        due("the top of the list has the largest", x.lives(5, 3, 0), 5);
        WarHouses w = new WarHouses();
        for (int i = 0; i < 13; i++) {
            w.plot(0, 0, 1, 0);
            w.start(i, i < 12 ? 0 : 1, 0);
        }
        for (int i = 0; i < 12; i++) {
            w.entry(0, 0, 2, 0, 0, 0, 0);
            w.squat(i, i, 0);
        }
        at("promise 30");
        told(w, "ten moves in a chain at most", w.offer(1), 10);
        told(w, "what is left of it", w.offer(1), 2);
        at("promise 31");
        due("the first", w.lives(12, 1, 0), 0);
        due("the tenth", w.lives(8, 1, 0), 9);
        due("the tenth", w.lives(8, 1, 2), 9);
        due("the next chain", w.lives(9, 1, 2), 0);
        due("the next chain", w.lives(10, 1, 0), 11);
        due("nobody wants it", w.lives(11, 1, 0), NONE);
        WarHouses y = new WarHouses();
        y.plot(1, 0, 2, 0);
        y.plot(0, 0, 2, 0);
        y.start(0, 0, 0);
        y.start(1, 0, 0);
        y.entry(0, 0, 2, 0, 0, 0, 0);
        y.entry(1, 0, 2, 0, 0, 0, 9);
        y.mark(0, 0, 1);
        y.mark(1, 0, 1);
        y.mark(0, 1, 1);
        y.mark(1, 1, 1);
        at("promise 30");
        told(y, "the council's own list", y.offer(0), 1);
        due("roof", y.roof(0, 0), 1);
        told(y, "one family has a roof", y.offer(9), 0);
        at("promise 32");
        due("by the other entry", y.roof(1, 9), 1);
        due("that isn't known yet", y.roof(1, 8), NONE);
    }

    private static void joinedFamilies() {
        at("promise 30");
        WarHouses x = new WarHouses();
        for (int i = 0; i < 4; i++) {
            x.plot(0, 0, i < 3 ? 1 : 4, 0);
            x.start(i, i < 3 ? 0 : 5, 0);
        }
        for (int i = 0; i < 3; i++) {
            x.entry(0, 0, 2, 0, 0, 0, 0);
        }
        due("two live", x.squat(2, 2, 0), 1);
        due("two live", x.offer(0), 2);
        for (int i = 0; i < 3; i++) {
            x.mark(i, 0, 3);
            x.mark(i, 1, 3);
        }
        at("promise 32");
        due("in the lowest", x.roof(2, 0), 0);
        at("promise 30");
        due("it leaves the lowest and the one in which it squats", x.offer(5), 1);
        at("promise 31");
        due("left", x.lives(0, 5, 0), NONE);
        due("not left", x.lives(1, 5, 0), 1);
        due("gone in", x.lives(3, 5, 0), 0);
        at("promise 34");
        due("it squats no more", x.out(2, 5), -3);
        at("promise 32");
        due("in the lowest", x.roof(0, 5), 1);
    }

    private static void squatters() {
        at("promise 33");
        WarHouses x = new WarHouses();
        law(x, "squat 3;huts 8", 0, 0);
        x.plot(0, 2, 2, 0);
        x.plot(0, 0, 2, 0);
        x.plot(0, 0, 2, 0);
        x.start(0, 2, 0);
        x.start(1, 2, 0);
        x.entry(0, 0, 2, 0, 0, 0, 0);
        x.entry(0, 200, 2, 0, 0, 0, 0);
        x.entry(0, 0, 2, 0, 0, 0, 4);
        told(x, "week", x.squat(0, 0, 260), -1);
        told(x, "week", x.squat(0, 0, -1), -1);
        told(x, "week ahead of all", x.squat(9, 9, -1), -1);
        told(x, "no entry", x.squat(3, 0, 2), -2);
        told(x, "no entry", x.squat(-1, 0, 2), -2);
        told(x, "not known", x.squat(2, 0, 3), -2);
        told(x, "no plot", x.squat(0, 3, 2), -2);
        told(x, "no plot", x.squat(0, -1, 2), -2);
        told(x, "no home yet", x.squat(0, 0, 1), -3);
        told(x, "no home at all", x.squat(0, 2, 2), -3);
        told(x, "squat", x.squat(0, 0, 2), 1);
        told(x, "it squats", x.squat(0, 1, 2), -3);
        told(x, "somebody does", x.squat(1, 0, 2), -3);
        told(x, "not on a list, but known", x.squat(1, 1, 4), 2);
        told(x, "week", x.squat(2, 1, 3), -1);
        due("squatters", x.count(8), 2);
        at("promise 31");
        due("who squats does not live there", x.lives(0, 4, 0), NONE);
        due("lives from then on", x.lives(0, 5, 0), 0);
        due("came in", x.lives(0, 5, 1), 2);
        due("no chain", x.lives(0, 5, 2), 0);
        due("till the end", x.lives(0, 9, 0), 0);
        due("till the end", x.lives(0, 10, 0), NONE);
        at("promise 37");
        due("squatters are not under it", x.under(0, 4), 0);
        due("then they are", x.under(0, 5), 2);
        at("promise 34");
        told(x, "week", x.out(1, 3), -1);
        told(x, "week", x.out(1, 260), -1);
        told(x, "plot", x.out(3, 4), -2);
        told(x, "plot", x.out(-1, 4), -2);
        told(x, "nobody", x.out(2, 4), -3);
        told(x, "they live there by now", x.out(0, 5), -3);
        told(x, "out", x.out(1, 6), 0);
        told(x, "again", x.out(1, 6), -3);
        told(x, "a week ahead of it", x.offer(5), -1);
        at("promise 30");
        told(x, "the other on the list has it", x.offer(6), 1);
        at("promise 31");
        due("the other", x.lives(1, 6, 0), 2);
        at("promise 33");
        WarHouses y = new WarHouses();
        y.plot(0, 0, 1, 0);
        y.plot(0, 0, 3, 0);
        y.start(0, 0, 0);
        y.start(1, 1, 0);
        y.entry(0, 0, 2, 0, 0, 0, 0);
        y.entry(0, 0, 1, 0, 0, 0, 0);
        told(y, "squat", y.squat(0, 0, 0), 1);
        at("promise 31");
        due("without such never", y.lives(0, 259, 0), NONE);
        at("promise 30");
        told(y, "who squats is offered one, and the other what they squatted in", y.offer(1), 2);
        at("promise 31");
        due("behind one", y.lives(0, 1, 2), 1);
        due("who", y.lives(0, 1, 0), 1);
        at("promise 33");
        WarHouses z = new WarHouses();
        z.plot(0, 0, 1, 0);
        z.start(0, 0, 0);
        z.entry(0, 0, 2, 0, 0, 0, 0);
        for (int i = 1; i <= 40; i++) {
            told(z, "squat", z.squat(0, 0, i), i);
            told(z, "out", z.out(0, i), 0);
        }
        told(z, "squat", z.squat(0, 0, 40), -5);
        at("promise 33");
        WarHouses u = new WarHouses();
        law(u, "squat week", 0, 0);
        u.plot(0, 0, 1, 0);
        u.start(0, 0, 0);
        u.entry(0, 0, 2, 0, 0, 0, 0);
        u.rent(0, 40, 40);
        told(u, "squat", u.squat(0, 0, 5), 1);
        due("squat, with week that week", u.lives(0, 9, 0), NONE);
        due("squat, with week that week", u.lives(0, 10, 0), 0);
        at("promise 34");
        WarHouses v = new WarHouses();
        law(v, "squat 9;huts 3", 0, 0);
        v.plot(0, 2, 1, 0);
        v.start(0, 0, 0);
        v.entry(0, 0, 2, 0, 0, 0, 0);
        told(v, "squat", v.squat(0, 0, 1), 1);
        told(v, "their squatting came to the plot's end", v.out(0, 3), -3);
        told(v, "out", v.out(0, 2), 0);
    }

    private static void rents() {
        at("promise 35");
        WarHouses x = new WarHouses();
        law(x, "rent rooms * 100 + week;rent persons + children + have + ill + waited;rent 1 / waited;rent 0 - 900 if week = 7;"
            + "rent 10000 * 10000 * 10 if week > 20;huts 30", 0, 0);
        x.plot(0, 2, 3, 0);
        x.start(0, 2, 0);
        due("nobody lives there", x.rent(0, 2, 0), 302);
        x.entry(0, 0, 4, 2, 3, 1, 0);
        x.squat(0, 0, 2);
        due("who squats does not live there", x.rent(0, 3, 3), 303);
        x.out(0, 4);
        x.offer(4);
        due("rent", x.rent(0, 4, 0), 314);
        due("rent", x.rent(0, 3, 0), 303);
        due("at least 0", x.rent(0, 7, 0), 0);
        due("at most", x.rent(0, 21, 0), 1_000_000_000);
        due("no home yet", x.rent(0, 1, 0), NONE);
        due("no home any more", x.rent(0, 31, 0), 1_000_000_000);
        due("no home any more", x.rent(0, 32, 0), NONE);
        law(x, "huts 1", 0, 5);
        due("no home as known", x.rent(0, 3, 5), NONE);
        due("a home as known", x.rent(0, 3, 4), 303);
        due("plot", x.rent(1, 4, 0), NONE);
        due("plot", x.rent(-1, 4, 0), NONE);
        due("week", x.rent(0, 260, 0), NONE);
        due("week", x.rent(0, 4, -1), NONE);
        at("promise 36");
        told(x, "persons", x.lodge(0, 0, 0, 0), -1);
        told(x, "persons", x.lodge(0, 21, 0, 0), -1);
        told(x, "weeks", x.lodge(0, 1, 5, 4), -1);
        told(x, "weeks", x.lodge(0, 1, -1, 4), -1);
        told(x, "weeks", x.lodge(0, 1, 0, 260), -1);
        told(x, "plot", x.lodge(1, 1, 0, 0), -2);
        told(x, "plot", x.lodge(-1, 1, 0, 0), -2);
        told(x, "lodge", x.lodge(0, 20, 5, 5), 1);
        for (int i = 2; i <= 40; i++) {
            told(x, "lodge", x.lodge(0, 1, 6, 8), i);
        }
        told(x, "lodge", x.lodge(0, 1, 0, 0), -5);
        told(x, "lodge", x.lodge(0, 0, 0, 0), -1);
        at("promise 37");
        due("under", x.under(0, 4), 4);
        due("under", x.under(0, 5), 24);
        due("under", x.under(0, 6), 43);
        due("under", x.under(0, 8), 43);
        due("under", x.under(0, 9), 4);
        due("under", x.under(0, 32), 0);
        due("under", x.under(1, 0), NONE);
        due("under", x.under(-1, 0), NONE);
        due("under", x.under(0, 260), NONE);
    }

    private static void targets() {
        WarHouses x = new WarHouses();
        at("promise 38");
        told(x, "target", x.target(6, 0, 0), -1);
        told(x, "target", x.target(0, 20, 0), -1);
        told(x, "target", x.target(0, 0, -1), -1);
        told(x, "target", x.target(0, 0, 10_001), -1);
        told(x, "target", x.target(5, 19, 10_000), 0);
        at("promise 39");
        told(x, "claim", x.claim(-1, 0, 0, 0), -1);
        told(x, "claim", x.claim(0, -1, 0, 0), -1);
        told(x, "claim", x.claim(0, 0, 20, 0), -1);
        told(x, "claim", x.claim(0, 0, 0, 1001), -1);
        told(x, "claim", x.claim(0, 0, 0, -1), -1);
        told(x, "claim", x.claim(5, 19, 19, 1000), 0);
        at("promise 40");
        told(x, "look", x.look(6, 0, 0, 0), -1);
        told(x, "look", x.look(0, 20, 0, 0), -1);
        told(x, "look", x.look(0, 0, -1, 0), -1);
        told(x, "look", x.look(0, 0, 0, -1), -1);
        told(x, "look", x.look(1, 2, 3, 0), 0);
        at("promise 41");
        due("least", x.truth(5, 19, 0), 0);
        due("most", x.truth(5, 19, 1), 1000);
        due("claimed", x.truth(5, 19, 2), 1000);
        due("met", x.truth(5, 19, 3), 0);
        due("false", x.truth(5, 19, 4), 0);
        due("met without a target", x.truth(1, 2, 3), 0);
        x.target(1, 2, 0);
        due("met with a target of none", x.truth(1, 2, 3), 1);
        x.claim(1, 2, 3, 10);
        x.claim(1, 2, 4, 6);
        due("nothing is there", x.truth(1, 2, 1), 6);
        due("false", x.truth(1, 2, 4), 1);
        x.look(1, 2, 3, 12);
        due("told anew", x.truth(1, 2, 0), 12);
        due("most", x.truth(1, 2, 1), 18);
        due("not false", x.truth(1, 2, 4), 0);
        x.look(1, 2, 5, 4);
        due("seen where nothing is claimed", x.truth(1, 2, 0), 16);
        due("claimed", x.truth(1, 2, 2), 16);
        x.target(1, 2, 16);
        due("met", x.truth(1, 2, 3), 1);
        x.target(1, 2, 17);
        due("not met", x.truth(1, 2, 3), 0);
        due("what", x.truth(1, 2, 5), NONE);
        due("what", x.truth(1, 2, -1), NONE);
        due("council", x.truth(6, 2, 0), NONE);
        due("quarter", x.truth(0, 20, 0), NONE);
    }

    private static void images() {
        at("promise 42");
        WarHouses x = new WarHouses();
        told(x, "image", x.image(-1), -1);
        told(x, "image", x.image(3), -1);
        told(x, "back", x.back(2), -2);
        told(x, "back", x.back(3), -1);
        told(x, "back", x.back(-1), -1);
        law(x, "huts 5;points 3", 0, 0);
        x.plot(0, 2, 2, 0);
        x.start(0, 0, 0);
        x.entry(0, 0, 2, 0, 0, 0, 0);
        x.entry(0, 0, 2, 0, 0, 0, 0);
        x.mark(0, 0, 1);
        x.mark(1, 0, 1);
        x.mark(0, 1, 1);
        x.offer(1);
        told(x, "image", x.image(2), 0);
        law(x, "strike 0 clause 0;points 4", 0, 0);
        x.mark(1, 1, 1);
        x.plot(0, 0, 3, 0);
        x.start(1, 2, 0);
        x.deliver(0, 0, 7, 0);
        x.works(0, 1, 0, 0, 1, 1, 1, 0);
        x.gangs(0, 3, 0, 0);
        x.offer(2);
        x.lodge(0, 3, 0, 9);
        x.target(0, 0, 1);
        x.claim(0, 0, 0, 2);
        x.plot(0, 0, 3, 0);
        x.wish(2);
        x.best(0);
        write(x, "huts");
        told(x, "image", x.image(0), 0);
        at("promise 43");
        told(x, "back", x.back(2), 0);
        due("tape", x.count(9), 0);
        due("wishes", x.count(5), 0);
        due("acts", x.count(0), 1);
        due("counts", x.counts(3, 0, 0), 5);
        due("points", x.points(0, 0, 0), 3);
        due("family", x.family(1, 0), 1);
        due("plots", x.count(3), 1);
        due("starts", x.count(4), 1);
        due("deliveries", x.count(1), 0);
        due("works", x.count(2), 0);
        due("moves", x.count(7), 1);
        due("stock", x.stock(0, 0, 0, 0), 0);
        due("lives", x.lives(0, 4, 0), 0);
        due("under", x.under(0, 4), 2);
        due("claimed", x.truth(0, 0, 2), 0);
        due("mark", x.mark(1, 1, 2), 0);
        due("offer of an earlier week", x.offer(1), 0);
        due("the other image", x.back(0), 0);
        due("acts", x.count(0), 2);
        due("huts", x.counts(3, 0, 0), NONE);
        due("points", x.points(0, 0, 0), 7);
        due("family", x.family(1, 0), 0);
        due("moves", x.count(7), 2);
        due("lives", x.lives(1, 4, 0), 0);
        due("under", x.under(0, 4), 3);
        due("claimed", x.truth(0, 0, 2), 2);
        due("wishes", x.count(5), 0);
        due("offer of an earlier week", x.offer(1), -1);
        due("and again", x.back(2), 0);
        due("it is as it was kept", x.mark(1, 1, 3), 0);
        due("kept anew", x.image(2), 0);
        due("kept anew", x.back(2), 0);
        due("kept anew", x.mark(1, 1, 3), -4);
        WarHouses y = new WarHouses();
        y.image(0);
        law(y, "huts 5;squat 1", 0, 0);
        y.plot(0, 0, 1, 0);
        y.start(0, 0, 0);
        y.entry(0, 0, 2, 0, 0, 0, 0);
        y.target(2, 2, 0);
        y.gangs(0, 1, 0, 0);
        y.squat(0, 0, 0);
        y.image(1);
        y.back(0);
        due("no target", y.truth(2, 2, 3), 0);
        due("squatters", y.count(8), 0);
        law(y, "rent 1;squat 4", 0, 0);
        due("of the act told now", y.counts(4, 0, 0), 4);
        due("of the act told now", y.counts(3, 0, 0), NONE);
        for (int i = 0; i < 100; i++) {
            y.offer(0);
        }
        due("offers", y.offer(0), -5);
        y.back(1);
        due("of the act told then", y.counts(4, 0, 0), 1);
        due("of the act told then", y.counts(3, 0, 0), 5);
        due("target", y.truth(2, 2, 3), 1);
        due("squatters", y.count(8), 1);
        due("offers", y.offer(0), 0);
    }

    private static void countsAndStatus() {
        at("promise 44");
        WarHouses x = new WarHouses();
        due("count", x.count(-1), NONE);
        due("count", x.count(10), NONE);
        at("promise 45");
        due("status", x.status(), 0);
        x.plot(9, 0, 0, 0);
        due("status", x.status(), -1);
        x.feed(0, 0, 0, 0, 0);
        x.end(99);
        x.best(99);
        x.built(9, 9, 9, 9);
        x.truth(9, 9, 9);
        x.clear();
        due("calls that only ask leave it", x.status(), -1);
        x.plot(0, 0, 1, 0);
        due("status", x.status(), 0);
        x.wish(5);
        due("status", x.status(), -2);
        x.mark(0, 0, 0);
        due("status", x.status(), -2);
        x.act(0, 0);
        due("status", x.status(), -6);
        x.image(1);
        due("status", x.status(), 0);
        x.back(5);
        due("status", x.status(), -1);
        x.back(1);
        due("status", x.status(), 0);
    }

    public static void main(String[] args) {
        newObject();
        feedAndEnd();
        acts();
        forces();
        sums();
        needs();
        telling();
        stocks();
        building();
        firstAndOrder();
        knocks();
        choices();
        families();
        ordering();
        offers();
        chains();
        joinedFamilies();
        squatters();
        rents();
        targets();
        images();
        countsAndStatus();
        finish("promises");
    }
}

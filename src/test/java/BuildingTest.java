/** Terms III and IV, promises 9 to 23, sentence by sentence: STOCK, the RUN, LICENCES, KNOCK, a QUARTER's choice. */
public final class BuildingTest extends Checks {

    // ------------------------------------------------------------ DELIVERIES, WORKS, GANGS, PLOTS, STARTS

    private static void deliveries() {
        at("promise 9: how many there are; Terms III: 120 at most");
        WarHouses x = new WarHouses();
        for (int i = 1; i <= 120; i++) {
            told(x, "deliver", x.deliver(i % 5, i, i, 0), i);
        }
        told(x, "the 121st", x.deliver(0, 0, 1, 0), -5);
        due("DELIVERIES", x.count(1), 120);
        due("the first of all", x.stock(1, 1, 0, 0), 1);
        due("the last of all", x.stock(0, 120, 0, 0) - x.stock(0, 119, 0, 0), 120);
        due("nothing of the 121st", x.stock(0, 0, 0, 0), 0);
        at("Terms III: of a MATERIAL in a WEEK an amount, known from a WEEK on");
        for (int m = 0; m < 5; m++) {
            WarHouses y = new WarHouses();
            y.deliver(m, 7, 5, 9);
            y.deliver(m, 7, 6, 9);
            y.deliver(m, 8, 1, 0);
            for (int other = 0; other < 5; other++) {
                due("in its WEEK", y.stock(other, 7, 9, 0), other == m ? 11 : 0);
                due("ahead of it", y.stock(other, 6, 9, 0), 0);
                due("behind it", y.stock(other, 8, 9, 0), other == m ? 12 : 0);
                due("not known", y.stock(other, 259, 8, 0), other == m ? 1 : 0);
            }
        }
        at("Terms III: an amount (1 .. 100,000), in the first WEEK and the last");
        WarHouses z = new WarHouses();
        z.deliver(3, 0, 100_000, 259);
        z.deliver(3, 259, 1, 259);
        due("all", z.stock(3, 0, 259, 0), 100_000);
        due("all", z.stock(3, 258, 259, 0), 100_000);
        due("all", z.stock(3, 259, 259, 0), 100_001);
        due("none", z.stock(3, 259, 258, 0), 0);
    }

    private static void knownFrom() {
        at("Terms I: All that is told is KNOWN from a WEEK on");
        for (int known = 0; known < 260; known += known == 2 ? 256 : 1) {
            WarHouses x = new WarHouses();
            law(x, "licence brick 0", 0, known);
            x.plot(0, 0, 1, 0);
            x.plot(0, 1, 1, 0);
            x.start(0, 0, 0);
            x.start(1, 0, known);
            x.deliver(2, 0, 5, known);
            due("an ACT", x.built(0, known, 0, 6), 0);
            due("a START", x.built(1, known, 0, 6), 1);
            due("a DELIVERY", x.stock(2, 0, known, 0), 5);
            WarHouses y = under("work brick base 1");
            y.plot(0, 0, 1, 0);
            y.start(0, 0, 0);
            y.gangs(0, 1, 0, known);
            due("GANGS", y.built(0, known, 0, 0), 0);
            if (known > 0) {
                due("an ACT ahead of it", x.built(0, known - 1, 0, 6), 1);
                due("a START ahead of it", x.built(1, known - 1, 0, 6), 0);
                due("a DELIVERY ahead of it", x.stock(2, 0, known - 1, 0), 0);
                due("GANGS ahead of it", y.built(0, known - 1, 0, 0), NONE);
            }
        }
    }

    private static void toldAnew() {
        at("Terms I: what is asked again is as told by then");
        WarHouses x = under("need hut base kits 1;work hut fit 1");
        x.plot(0, 2, 1, 0);
        due("ahead of all", x.lacks(0, 0, 0), 1);
        x.start(0, 0, 0);
        due("behind start()", x.lacks(0, 0, 0), 4);
        due("ahead of deliver()", x.stock(3, 0, 0, 0), 0);
        x.deliver(3, 0, 1, 0);
        due("behind deliver()", x.stock(3, 0, 0, 0), 1);
        x.works(3, 1, 3, 0, 4, 1, 1, 0);
        due("behind works()", x.lacks(0, 0, 0), 5);
        x.gangs(0, 1, 5, 0);
        due("behind gangs()", x.built(0, 0, 0, 2), 5);
        due("LATE behind gangs()", x.built(0, 0, 3, 2), 5);
        law(x, "work hut fit 0", 0, 0);
        due("behind act()", x.built(0, 0, 0, 2), 0);
        due("LATE behind act()", x.built(0, 0, 3, 2), 0);
        x.plot(0, 2, 1, 0);
        due("behind plot()", x.lacks(1, 0, 0), 1);
        x.image(0);
        x.start(1, 4, 0);
        due("behind start()", x.lacks(1, 4, 0), 4);
        due("knock", x.knock(0, 1), 0);
        x.back(0);
        due("behind back()", x.lacks(1, 4, 0), 1);
        at("Terms IV: what is asked again is as told by then");
        WarHouses y = wished("need hut base kits 2", 2, 3);
        due("ahead of all", y.judge(1, 1), 0);
        due("ahead of all", y.best(1), 0);
        y.deliver(4, 3, 1, 0);
        due("not enough", y.judge(1, 1), 0);
        y.works(0, 0, 0, 0, 4, 1, 1, 12);
        due("behind works()", y.judge(1, 1), 30);
        law(y, "need hut base kits 50", 0, 0);
        due("behind act()", y.judge(1, 1), 0);
        y.deliver(4, 3, 50, 0);
        due("behind deliver()", y.judge(1, 1), 30);
        due("behind deliver()", y.bound(1), 3);
        y.plot(0, 2, 1, 0);
        y.start(1, 3, 0);
        due("behind start()", y.judge(1, 1), 0);
        due("behind start()", y.best(1), 0);
    }

    private static void allFull() {
        at("Terms II and III: as many ACTS, DELIVERIES, WORKS, GANGS, PLOTS and STARTS as there may be");
        WarHouses x = new WarHouses();
        for (int i = 0; i < 24; i++) {
            law(x, "need hut base kits " + (i + 1) + ";work hut fit 1", i, i);
        }
        for (int i = 0; i < 30; i++) {
            x.plot(i % 6, 2, 1 + i / 6, 0);
            x.start(i, i, 0);
            x.start(i, 0, 1);
        }
        for (int i = 0; i < 60; i++) {
            x.gangs(i % 6, 1 + i / 6, i / 6, 0);
        }
        for (int i = 0; i < 120; i++) {
            x.deliver(i % 2 * 4, i / 2, 24, 0);
        }
        for (int i = 0; i < 8; i++) {
            x.works(0, 1, 4, 2, 1, 10, 1, 250);
        }
        told(x, "no room", x.start(0, 0, 0), -5);
        for (int i = 0; i < 30; i++) {
            due("PLOT " + i, x.built(i, 259, 0, 2), i);
            due("PLOT " + i + " as known in 0", x.built(i, 0, 0, 2), i);
        }
        due("left", x.stock(4, 40, 259, 0), 41 * 24 - (23 * 24 / 2 + 7 * 24));
        due("left as known in 0", x.stock(4, 40, 0, 0), 41 * 24 - 30);
        due("no knock", x.knock(259, 26), 0);
        due("given", x.stock(1, 250, 259, 0), 80);
    }

    private static void lateBricks() {
        at("Terms III: those of MATERIAL 0 of the WEEK n ahead of it instead");
        for (int m = 0; m < 5; m++) {
            for (int late = 0; late <= 26; late += 13) {
                WarHouses x = new WarHouses();
                x.deliver(m, 10, 5, 0);
                int week = m == 0 ? 10 + late : 10;
                due("in its WEEK", x.stock(m, week, 0, late), 5);
                due("ahead of it", x.stock(m, week - 1, 0, late), 0);
            }
        }
        WarHouses y = new WarHouses();
        y.deliver(0, 233, 5, 0);
        y.deliver(0, 234, 7, 0);
        y.deliver(0, 259, 9, 0);
        due("in the last WEEK still", y.stock(0, 259, 0, 26), 5);
        due("in the last WEEK still", y.stock(0, 258, 0, 26), 0);
        due("and one behind it not", y.stock(0, 259, 0, 25), 12);
        due("LATE by 1", y.stock(0, 259, 0, 1), 12);
        due("LATE by 0", y.stock(0, 259, 0, 0), 21);
        at("promise 14: NONE");
        due("LATE by 27", y.stock(0, 259, 0, 27), NONE);
    }

    private static void works() {
        at("promise 10: its number; Terms III: WORKS 0 .. 7 (8 at most)");
        WarHouses x = new WarHouses();
        for (int i = 0; i < 8; i++) {
            told(x, "works", x.works(0, 0, 1, 0, 2, 1 + i, 1, 0), i);
        }
        told(x, "the ninth", x.works(0, 0, 1, 0, 2, 1, 1, 0), -5);
        due("WORKS", x.count(2), 8);
        due("all of them", x.stock(2, 0, 0, 0), 36);
        at("Terms III: as many batches as it may, from its WEEK on");
        WarHouses y = new WarHouses();
        y.works(0, 0, 1, 0, 2, 3, 100, 5);
        y.works(0, 0, 0, 0, 3, 3, 0, 0);
        due("ahead of its WEEK", y.stock(2, 4, 0, 0), 0);
        due("in its WEEK", y.stock(2, 5, 0, 0), 300);
        due("each WEEK", y.stock(2, 6, 0, 0), 600);
        due("of no batches", y.stock(3, 259, 0, 0), 0);
        at("Terms III: and as there is STOCK of both");
        int[][] stocks = {{29, 100, 9}, {30, 100, 10}, {31, 100, 10}, {100, 19, 9}, {100, 20, 10}, {100, 21, 10}, {2, 100, 0},
            {100, 1, 0}, {33, 22, 11}, {100, 100, 12}, {36, 24, 12}, {35, 24, 11}, {36, 23, 11}};
        for (int[] s : stocks) {
            WarHouses z = new WarHouses();
            z.deliver(1, 0, s[0], 0);
            z.deliver(3, 0, s[1], 0);
            z.works(1, 3, 3, 2, 4, 7, 12, 0);
            due("given of " + s[0] + " and " + s[1], z.stock(4, 0, 0, 0), s[2] * 7);
            due("left of " + s[0], z.stock(1, 0, 0, 0), s[0] - s[2] * 3);
            due("left of " + s[1], z.stock(3, 0, 0, 0), s[1] - s[2] * 2);
        }
        WarHouses w = new WarHouses();
        w.deliver(1, 0, 2000, 0);
        w.deliver(2, 0, 1999, 0);
        w.works(1, 1000, 2, 1000, 4, 10_000, 100, 0);
        w.works(1, 1000, 2, 0, 3, 10_000, 100, 0);
        due("one batch of the most of both", w.stock(4, 0, 0, 0), 10_000);
        due("nothing of the other is asked for", w.stock(3, 0, 0, 0), 10_000);
        due("left", w.stock(2, 0, 0, 0), 999);
        due("left", w.stock(1, 0, 0, 0), 0);
        at("Terms III: what it takes of one and the same MATERIAL counts together");
        int[][] same = {{4, 0}, {5, 1}, {9, 1}, {10, 2}, {15, 3}, {99, 3}};
        for (int[] s : same) {
            WarHouses z = new WarHouses();
            z.deliver(1, 0, s[0], 0);
            z.works(1, 2, 1, 3, 4, 1, 3, 0);
            due("batches of " + s[0], z.stock(4, 0, 0, 0), s[1]);
            due("left of " + s[0], z.stock(1, 0, 0, 0), s[0] - s[1] * 5);
        }
        at("Terms III: each WORK in order, of what the DELIVERIES of this WEEK brought");
        WarHouses v = new WarHouses();
        v.works(2, 1, 2, 0, 3, 1, 9, 0);
        v.works(1, 1, 1, 0, 2, 1, 9, 0);
        v.works(2, 1, 0, 1, 4, 1, 9, 0);
        v.deliver(1, 6, 5, 0);
        v.deliver(0, 6, 2, 0);
        due("what a later WORK gave is there in the next WEEK", v.stock(3, 6, 0, 0), 0);
        due("what an earlier WORK gave is there at once", v.stock(4, 6, 0, 0), 2);
        due("the rest", v.stock(2, 6, 0, 0), 3);
        due("in the next WEEK", v.stock(3, 7, 0, 0), 3);
        due("late bricks", v.stock(4, 6, 0, 1), 0);
        due("late bricks: the first WORK was ahead of them", v.stock(4, 7, 0, 1), 0);
    }

    private static void gangs() {
        at("promise 11: how many were told; Terms III: GANGS, 60 at most");
        WarHouses x = new WarHouses();
        for (int i = 1; i <= 60; i++) {
            told(x, "gangs", x.gangs(i % 6, 1, 0, 0), i);
        }
        told(x, "the 61st", x.gangs(0, 1, 0, 0), -5);
        at("Terms III: of those known and from w or ahead of it on that of the latest WEEK, of alike ones told last; 0 without");
        WarHouses y = gangTown();
        due("without", y.built(0, 0, 0, 2), NONE);
        y.gangs(1, 50, 0, 0);
        due("of another COUNCIL", y.built(0, 0, 0, 2), NONE);
        y.gangs(0, 1, 4, 3);
        due("not known", y.built(0, 2, 0, 2), NONE);
        due("known", y.built(0, 3, 0, 0), 4);
        due("each WEEK anew", y.built(0, 3, 0, 2), 6);
        y.gangs(0, 0, 5, 5);
        due("none any more from then on", y.built(0, 5, 0, 0), 4);
        due("none any more from then on", y.built(0, 5, 0, 1), NONE);
        y.gangs(0, 9, 1, 6);
        due("told later, but of an earlier WEEK", y.built(0, 6, 0, 0), 1);
        due("told later, but of an earlier WEEK", y.built(0, 6, 0, 2), 3);
        y.gangs(0, 0, 1, 7);
        due("of alike ones told last", y.built(0, 7, 0, 0), 4);
        due("of alike ones told last", y.built(0, 7, 0, 1), NONE);
        y.gangs(0, 1, 5, 8);
        due("of alike ones told last", y.built(0, 8, 0, 1), 5);
        due("as known ahead of it", y.built(0, 7, 0, 1), NONE);
        due("as known ahead of all", y.built(0, 2, 0, 0), NONE);
        due("as known then", y.built(0, 3, 0, 2), 6);
        due("as known then", y.built(0, 4, 0, 2), 6);
        at("Terms III: gets a gang of its COUNCIL for this WEEK, if one is left");
        for (int many = 0; many <= 4; many++) {
            WarHouses z = under("work brick base 1");
            for (int p = 0; p < 4; p++) {
                z.plot(0, 0, 1, 0);
                z.start(p, 0, 0);
            }
            z.gangs(0, many, 0, 0);
            for (int p = 0; p < 4; p++) {
                due(many + " gangs, PLOT " + p, z.built(p, 0, 0, 0), many == 0 ? NONE : p / many);
            }
        }
        WarHouses w = under("work brick base 1");
        w.plot(0, 0, 1, 0);
        w.start(0, 259, 0);
        w.gangs(0, 1, 259, 0);
        due("in the last WEEK", w.built(0, 0, 0, 0), 259);
        due("DONE in the last WEEK", w.built(0, 0, 0, 2), NONE);
        WarHouses v = under("work brick fit 1");
        v.plot(0, 0, 1, 0);
        v.start(0, 259, 0);
        v.gangs(0, 1, 259, 0);
        due("DONE in the last WEEK", v.built(0, 0, 0, 2), 259);
    }

    private static WarHouses gangTown() {
        WarHouses x = under("work steel base 1;work steel shell 1;work steel fit 1");
        x.plot(0, 1, 1, 0);
        x.start(0, 0, 0);
        return x;
    }

    private static void plotsAndStarts() {
        at("promise 12: its number; Terms III: PLOTS 0 .. 29 (30 at most)");
        WarHouses x = new WarHouses();
        for (int i = 0; i < 30; i++) {
            told(x, "plot", x.plot(0, 0, 1, 0), i);
        }
        told(x, "the 31st", x.plot(0, 0, 1, 0), -5);
        due("PLOTS", x.count(3), 30);
        at("promise 13: how many were told; Terms III: A START, 60 at most");
        for (int i = 1; i <= 60; i++) {
            told(x, "start", x.start(i % 30, 5, 0), i);
        }
        told(x, "the 61st", x.start(0, 0, 0), -5);
        due("STARTS", x.count(4), 60);
        due("as told", x.built(29, 0, 0, 2), 5);
        at("Terms III: of one PLOT the first told of those known counts");
        WarHouses y = new WarHouses();
        y.plot(0, 0, 1, 0);
        y.start(0, 9, 6);
        y.start(0, 7, 3);
        y.start(0, 8, 3);
        y.start(0, 5, 7);
        due("none known", y.built(0, 2, 0, 2), NONE);
        due("the first told of those", y.built(0, 3, 0, 2), 7);
        due("the first told of those", y.built(0, 5, 0, 2), 7);
        due("the first told of all", y.built(0, 6, 0, 2), 9);
        due("the first told of all", y.built(0, 259, 0, 2), 9);
        at("promise 13: -3 the PLOT is WISHED");
        y.plot(0, 0, 1, 0);
        y.wish(1);
        told(y, "start", y.start(1, 0, 0), -3);
        told(y, "start of another", y.start(0, 0, 0), 5);
        y.clear();
        told(y, "start behind clear()", y.start(1, 0, 0), 6);
        at("Terms III: CLEARED from a WEEK on");
        WarHouses z = new WarHouses();
        z.plot(0, 0, 1, 10);
        z.plot(0, 0, 1, 259);
        z.plot(0, 0, 1, 10);
        z.start(0, 0, 0);
        z.start(1, 0, 0);
        z.start(2, 11, 0);
        due("begun, when it is CLEARED", z.built(0, 0, 0, 3), 10);
        due("begun, when it is CLEARED", z.built(1, 0, 0, 3), 259);
        due("begun, when it STARTED", z.built(2, 0, 0, 3), 11);
    }

    // ------------------------------------------------------------ the RUN

    private static void needs() {
        at("Terms III: takes its needs, all or, if any is lacking, none, and waits");
        for (int lacking = 0; lacking < 5; lacking++) {
            WarHouses x = under("need hut base bricks 3;need hut base timber 3;need hut base steel 3;need hut base coal 3;"
                + "need hut base kits 3");
            x.plot(0, 2, 1, 0);
            x.start(0, 0, 0);
            for (int m = 0; m < 5; m++) {
                x.deliver(m, 0, m == lacking ? 2 : 4, 0);
            }
            x.deliver(lacking, 8, 1, 0);
            due("waits", x.built(0, 0, 0, 3), 8);
            due("none is taken", x.stock((lacking + 1) % 5, 7, 0, 0), 4);
            due("none is taken", x.stock(lacking, 7, 0, 0), 2);
            due("all are taken", x.stock((lacking + 1) % 5, 8, 0, 0), 1);
            due("all are taken", x.stock(lacking, 8, 0, 0), 0);
        }
        at("Terms III: rooms is the PLOT's, week this WEEK; \"need\" of this WEEK");
        WarHouses y = under("need hut base kits 9 - week");
        law(y, "need hut base kits rooms * 100", 7, 0);
        y.plot(0, 2, 6, 0);
        y.start(0, 2, 0);
        y.deliver(4, 0, 4, 0);
        due("it needs less each WEEK", y.built(0, 0, 0, 3), 5);
        due("of the WEEK", y.stock(4, 5, 0, 0), 0);
        WarHouses z = under("need hut base kits 9");
        law(z, "need hut base kits rooms", 7, 5);
        z.plot(0, 2, 6, 0);
        z.plot(0, 2, 1, 0);
        z.start(0, 2, 0);
        z.start(1, 3, 0);
        z.deliver(4, 0, 7, 0);
        due("in force from then on", z.built(0, 5, 0, 3), 7);
        due("rooms of the other", z.built(1, 5, 0, 3), 7);
        due("all taken", z.stock(4, 7, 5, 0), 0);
        due("not known", z.built(0, 4, 0, 3), NONE);
        WarHouses v = under("need brick base bricks rooms;need brick shell timber 9;need brick base kits rooms;need brick fit coal 7");
        int[] rooms = {2, 1, 2, 6, 5, 6, 1};
        for (int p = 0; p < rooms.length; p++) {
            v.plot(0, 0, rooms[p], 0);
            v.start(p, 3, 0);
        }
        v.deliver(0, 0, 23, 0);
        v.deliver(4, 0, 24, 0);
        for (int p = 0; p < rooms.length; p++) {
            due("rooms of PLOT " + p, v.built(p, 0, 0, 3), 3);
            due("shell of PLOT " + p, v.built(p, 0, 0, 4), NONE);
        }
        due("all taken", v.stock(0, 3, 0, 0), 0);
        due("one left", v.stock(4, 3, 0, 0), 1);
        at("Terms III: what the DELIVERIES and WORKS of this WEEK brought is there");
        WarHouses w = under("need hut base kits 2");
        w.plot(0, 2, 1, 0);
        w.start(0, 0, 0);
        w.works(0, 1, 1, 1, 4, 2, 1, 0);
        w.deliver(0, 3, 1, 0);
        w.deliver(1, 3, 1, 0);
        due("in the same WEEK", w.built(0, 0, 0, 3), 3);
        due("LATE", w.built(0, 0, 4, 3), 7);
    }

    private static void stages() {
        at("Terms III: a STAGE is over when it has had so many as its \"work\" told in the WEEK in which it took its needs");
        WarHouses x = under("work steel base week;work steel shell rooms;work steel fit 1");
        x.plot(0, 1, 2, 0);
        x.start(0, 3, 0);
        x.gangs(0, 1, 0, 0);
        due("base took", x.built(0, 0, 0, 3), 3);
        due("base is over", x.built(0, 0, 0, 0), 5);
        due("shell took in the next WEEK", x.built(0, 0, 0, 4), 6);
        due("shell is over", x.built(0, 0, 0, 1), 7);
        due("fit took in the next WEEK", x.built(0, 0, 0, 5), 8);
        due("fit is over", x.built(0, 0, 0, 2), 8);
        WarHouses y = under("work steel base 3");
        law(y, "work steel base 1", 2, 0);
        y.plot(0, 1, 1, 0);
        y.start(0, 1, 0);
        y.gangs(0, 1, 0, 0);
        due("as told in that WEEK, whatever comes into force", y.built(0, 0, 0, 0), 3);
        at("Terms III: one that has its needs waits for a gang");
        WarHouses z = under("work steel base 2;need steel base steel 5");
        z.plot(0, 1, 1, 0);
        z.start(0, 1, 0);
        z.deliver(2, 0, 5, 0);
        z.gangs(0, 1, 4, 0);
        z.gangs(0, 0, 5, 0);
        z.gangs(0, 1, 9, 0);
        due("took", z.built(0, 0, 0, 3), 1);
        due("two gangs in all", z.built(0, 0, 0, 0), 9);
        at("Terms III: 0: at once, without a gang, and the next STAGE begins in this WEEK still, in the same place");
        WarHouses w = under("need hut shell kits 5;need brick base kits 5;work hut fit 1");
        w.plot(0, 2, 1, 0);
        w.plot(0, 0, 1, 0);
        w.start(0, 2, 0);
        w.start(1, 2, 0);
        w.deliver(4, 0, 5, 0);
        due("base", w.built(0, 0, 0, 0), 2);
        due("shell in the same WEEK, ahead of the next PLOT", w.built(0, 0, 0, 1), 2);
        due("fit took in the same WEEK", w.built(0, 0, 0, 5), 2);
        due("but it has no gang", w.built(0, 0, 0, 2), NONE);
        due("the next PLOT waits", w.built(1, 0, 0, 3), NONE);
        at("Terms III: A STAGE that is over in this WEEK lets the next one begin in the next WEEK (but for 0 as told)");
        WarHouses v = under("work hut base 1;need hut shell kits 5;need brick base kits 5");
        v.plot(0, 2, 1, 0);
        v.plot(0, 0, 1, 0);
        v.start(0, 2, 0);
        v.start(1, 2, 0);
        v.gangs(0, 1, 0, 0);
        v.deliver(4, 0, 5, 0);
        due("base", v.built(0, 0, 0, 0), 2);
        due("so the next PLOT has the kits", v.built(1, 0, 0, 3), 2);
        due("and the shell not", v.built(0, 0, 0, 4), NONE);
        due("DONE at once", v.built(1, 0, 0, 2), 2);
        WarHouses u = under("work hut base 1;work hut fit 1");
        u.plot(0, 2, 1, 0);
        u.start(0, 2, 0);
        u.gangs(0, 9, 0, 0);
        due("base", u.built(0, 0, 0, 0), 2);
        due("shell of no work in the next WEEK", u.built(0, 0, 0, 1), 3);
        due("and the fit too, with its gang", u.built(0, 0, 0, 2), 3);
    }

    private static WarHouses three(String text, int[] kinds, int[] starts) {
        WarHouses x = under(text);
        for (int p = 0; p < kinds.length; p++) {
            x.plot(0, kinds[p], 1, 0);
            x.start(p, starts[p], 0);
        }
        return x;
    }

    private static void turns() {
        at("Terms III: the KIND that \"first\" tells ahead of others, then by the WEEK of the START, then by number");
        String needs = "need brick base kits 1;need steel base kits 1;need hut base kits 1";
        int[][] kinds = {{0, 1, 2}, {2, 2, 2}, {0, 2, 2}, {2, 1, 0}};
        int[][] starts = {{0, 0, 0}, {2, 1, 0}, {0, 1, 1}, {1, 1, 0}};
        int[][] plain = {{0, 1, 2}, {2, 1, 0}, {0, 1, 2}, {2, 0, 1}};
        int[][] hutFirst = {{2, 0, 1}, {2, 1, 0}, {1, 2, 0}, {0, 2, 1}};
        for (int i = 0; i < kinds.length; i++) {
            WarHouses x = three(needs, kinds[i], starts[i]);
            WarHouses y = three(needs + ";first hut", kinds[i], starts[i]);
            for (int w = 5; w < 8; w++) {
                x.deliver(4, w, 1, 0);
                y.deliver(4, w, 1, 0);
            }
            for (int turn = 0; turn < 3; turn++) {
                due("case " + i + ", turn " + turn, x.built(plain[i][turn], 0, 0, 3), 5 + turn);
                due("case " + i + " with huts first, turn " + turn, y.built(hutFirst[i][turn], 0, 0, 3), 5 + turn);
            }
        }
        WarHouses z = three(needs + ";first hut if week > 5;first steel if week > 6", new int[] {0, 1, 2}, new int[] {0, 0, 0});
        law(z, "first brick if week > 5", 0, 9);
        z.deliver(4, 5, 1, 0);
        z.deliver(4, 6, 1, 0);
        due("without \"first\" yet", z.built(0, 0, 0, 3), 5);
        due("\"first\" of this WEEK", z.built(2, 0, 0, 3), 6);
        due("as known", z.built(1, 9, 0, 3), 6);
        WarHouses first = under("licence brick 9;licence hut 9;" + needs + ";first brick if rooms + persons + have > 0");
        law(first, "first hut", 14, 0);
        first.plot(0, 0, 6, 0);
        first.plot(0, 2, 1, 0);
        first.start(0, 14, 0);
        first.start(1, 14, 0);
        first.deliver(4, 14, 1, 0);
        first.need(2, 0, 4, 6, 3, 0);
        due("in force from then on", first.built(1, 0, 0, 3), 14);
        due("in force from then on", first.built(0, 0, 0, 3), NONE);
        WarHouses nothing = under(needs + ";first brick;first hut if rooms + persons + waited + have = 0");
        nothing.plot(0, 0, 6, 0);
        nothing.plot(0, 2, 6, 0);
        nothing.start(0, 0, 0);
        nothing.start(1, 0, 0);
        nothing.deliver(4, 0, 1, 0);
        due("rooms 0", nothing.built(1, 0, 0, 3), 0);
        at("Terms III: STARTED in this WEEK or ahead of it");
        WarHouses w = three(needs, new int[] {0, 1}, new int[] {6, 5});
        w.deliver(4, 5, 2, 0);
        due("in its WEEK", w.built(1, 0, 0, 3), 5);
        due("in its WEEK", w.built(0, 0, 0, 3), 6);
        at("Terms III: gangs go in the same order");
        WarHouses v = three("work brick base 1;work hut base 1;first hut", new int[] {0, 2, 2}, new int[] {0, 1, 1});
        v.gangs(0, 1, 4, 0);
        due("first", v.built(1, 0, 0, 0), 4);
        due("then", v.built(2, 0, 0, 0), 5);
        due("then", v.built(0, 0, 0, 0), 6);
        at("Terms III: not done");
        WarHouses u = three("need hut fit kits 1;need brick base kits 1", new int[] {2, 0}, new int[] {0, 0});
        u.deliver(4, 3, 1, 0);
        u.deliver(4, 4, 1, 0);
        due("done", u.built(0, 0, 0, 2), 3);
        due("takes no more", u.built(1, 0, 0, 3), 4);
    }

    private static void licences() {
        at("Terms III: only the first so many as \"licence\" of that KIND tells; in the order of START's WEEKS, then numbers");
        for (int many = 0; many <= 4; many++) {
            WarHouses x = three("licence hut " + many, new int[] {2, 2, 2, 2}, new int[] {12, 3, 3, 0});
            int[] order = {3, 1, 2, 0};
            for (int i = 0; i < 4; i++) {
                due(many + " LICENCES, turn " + i, x.built(order[i], 0, 0, 6), i < many ? 1 : 0);
                due(many + " LICENCES, turn " + i + " is built", x.built(order[i], 0, 0, 2),
                    i < many ? new int[] {0, 3, 3, 12}[i] : NONE);
            }
        }
        at("Terms III: of PLOTS of that COUNCIL and KIND whose STARTS lie in that QUARTER");
        WarHouses y = three("licence hut 1;licence brick 1", new int[] {2, 2, 0, 2, 1, 1}, new int[] {12, 13, 0, 25, 0, 0});
        due("the last WEEK of a QUARTER", y.built(0, 0, 0, 6), 1);
        due("the first WEEK of the next", y.built(1, 0, 0, 6), 1);
        due("another KIND", y.built(2, 0, 0, 6), 1);
        due("the last WEEK of the next", y.built(3, 0, 0, 6), 0);
        due("a KIND without LICENCES: all", y.built(4, 0, 0, 6), 1);
        due("a KIND without LICENCES: all", y.built(5, 0, 0, 6), 1);
        WarHouses z = under("licence hut 1");
        for (int p = 0; p < 12; p++) {
            z.plot(p / 2, 2, 1, 0);
            z.start(p, 0, 0);
        }
        for (int p = 0; p < 12; p++) {
            due("each COUNCIL by itself", z.built(p, 0, 0, 6), 1 - p % 2);
        }
        WarHouses a = three("licence hut 1", new int[] {2, 2}, new int[] {259, 247});
        due("in the last QUARTER", a.built(0, 0, 0, 6), 0);
        due("in the last QUARTER", a.built(1, 0, 0, 6), 1);
        at("Terms III: as \"licence\" of that KIND tells in that QUARTER's first WEEK");
        WarHouses w = under("licence hut 1 if week = 12;licence hut 2 if week = 13;licence hut 0 if week = 14");
        for (int p = 0; p < 6; p++) {
            w.plot(0, 2, 1, 0);
            w.start(p, p < 3 ? 12 : 14, 0);
        }
        for (int p = 0; p < 6; p++) {
            due("PLOT " + p, w.built(p, 0, 0, 6), p < 5 ? 1 : 0);
        }
        WarHouses v = new WarHouses();
        law(v, "licence hut 0", 1, 0);
        v.plot(0, 2, 1, 0);
        v.plot(0, 2, 1, 0);
        v.start(0, 12, 0);
        v.start(1, 13, 0);
        due("in force behind the first WEEK", v.built(0, 0, 0, 6), 1);
        due("in force in the next QUARTER", v.built(1, 0, 0, 6), 0);
        WarHouses r = under("licence hut rooms + 1");
        for (int p = 0; p < 3; p++) {
            r.plot(0, 2, 6, 0);
            r.start(p, 0, 0);
        }
        r.need(2, 0, 0, 6, 0, 0);
        due("rooms 0", r.built(0, 0, 0, 6), 1);
        due("rooms 0", r.built(1, 0, 0, 6), 0);
        at("Terms III: as known in k");
        law(v, "licence hut 1", 13, 30);
        due("not known", v.built(1, 29, 0, 6), 0);
        due("known", v.built(1, 30, 0, 6), 1);
        WarHouses u = three("licence hut 1", new int[] {2}, new int[] {5});
        u.plot(0, 2, 1, 0);
        u.start(1, 4, 9);
        due("an earlier START not known", u.built(0, 8, 0, 6), 1);
        due("an earlier START known", u.built(0, 9, 0, 6), 0);
        at("Terms III: one that isn't CLEARED has its LICENCE all the same");
        WarHouses t = under("licence hut 1");
        t.plot(0, 2, 1, 200);
        t.plot(0, 2, 1, 0);
        t.start(0, 0, 0);
        t.start(1, 0, 0);
        due("LICENSED", t.built(0, 0, 0, 6), 1);
        due("not LICENSED", t.built(1, 0, 0, 6), 0);
        due("built", t.built(0, 0, 0, 2), 200);
        at("promise 15: without a START 0");
        t.plot(0, 1, 1, 0);
        due("LICENSED", t.built(2, 0, 0, 6), 0);
        for (int what = 0; what < 6; what++) {
            due("without a START", t.built(2, 0, 0, what), NONE);
            due("not LICENSED", t.built(1, 0, 0, what), NONE);
        }
    }

    private static void builtAndLacks() {
        at("promise 15: NONE .. of what isn't so by WEEK 259");
        WarHouses x = under("work brick shell 2;work brick base 1");
        x.gangs(0, 9, 0, 0);
        for (int i = 0; i < 4; i++) {
            x.plot(0, 0, 1, 0);
            x.start(i, 256 + i, 0);
        }
        int[][] weeks = {{256, 258, 259, 256, 257, 259}, {257, 259, NONE, 257, 258, NONE}, {258, NONE, NONE, 258, 259, NONE},
            {259, NONE, NONE, 259, NONE, NONE}};
        for (int i = 0; i < 4; i++) {
            for (int what = 0; what < 6; what++) {
                due("PLOT " + i + ", what " + what, x.built(i, 0, 0, what), weeks[i][what]);
            }
        }
        WarHouses l = under("need brick base bricks 1");
        l.plot(0, 0, 1, 0);
        l.start(0, 0, 0);
        l.deliver(0, 233, 1, 0);
        due("LATE by 26", l.built(0, 0, 26, 2), 259);
        due("LATE by 25", l.built(0, 0, 25, 3), 258);
        l = under("need brick base bricks 1");
        l.plot(0, 0, 1, 0);
        l.start(0, 0, 0);
        l.deliver(0, 234, 1, 0);
        due("LATE by 26", l.built(0, 0, 26, 2), NONE);
        due("LATE by 26", l.built(0, 0, 26, 6), 1);
        at("promise 16: at the end of a WEEK");
        WarHouses y = under("need brick base bricks 5;work brick base 2;work brick fit 1;licence brick 1");
        y.plot(0, 0, 1, 4);
        y.plot(0, 0, 1, 0);
        y.start(0, 2, 0);
        y.start(1, 3, 0);
        y.deliver(0, 6, 5, 0);
        y.gangs(0, 1, 8, 0);
        y.gangs(0, 0, 10, 0);
        y.gangs(0, 1, 12, 0);
        int[] lacks = {1, 1, 3, 3, 4, 4, 5, 5, 5, 5, 5, 5, 0, 0};
        for (int w = 0; w < lacks.length; w++) {
            due("in " + w, y.lacks(0, w, 0), lacks[w]);
        }
        due("base is over, for the WEEK's end", y.built(0, 0, 0, 0), 9);
        due("fit took its needs", y.built(0, 0, 0, 5), 10);
        due("DONE", y.built(0, 0, 0, 2), 12);
    }

    private static void lacks() {
        at("promise 16: 0 DONE, 1 no START by then, 2 not LICENSED, 3 not CLEARED by then, 4, 5");
        WarHouses y = under("need brick base bricks 5;work brick base 2;work brick fit 2;need brick fit coal 1;licence brick 1");
        y.plot(0, 0, 1, 4);
        y.plot(0, 0, 1, 9);
        y.start(0, 2, 0);
        y.start(1, 3, 0);
        y.deliver(0, 6, 5, 0);
        y.deliver(3, 12, 1, 0);
        y.gangs(0, 1, 8, 0);
        int[] lacks = {1, 1, 3, 3, 4, 4, 5, 5, 5, 5, 4, 4, 5, 0, 0};
        int[] other = {1, 1, 1, 2, 2, 2, 2, 2, 2, 2, 2, 2, 2, 2, 2};
        for (int w = 0; w < lacks.length; w++) {
            due("in " + w, y.lacks(0, w, 0), lacks[w]);
            due("the other in " + w, y.lacks(1, w, 0), other[w]);
        }
        due("base is over", y.built(0, 0, 0, 0), 9);
        due("DONE", y.built(0, 0, 0, 2), 13);
        due("at the end of all", y.lacks(0, 259, 0), 0);
        due("at the end of all", y.lacks(1, 259, 0), 2);
        at("promise 16: of each PLOT");
        WarHouses e = under("need brick base bricks 1;need steel base steel 1;need hut fit kits 1;work brick base 2");
        int[] kinds = {0, 1, 2, 0, 1};
        for (int p = 0; p < 5; p++) {
            e.plot(p, kinds[p], 1, 0);
            e.start(p, p == 3 ? 1 : 0, 0);
        }
        e.deliver(0, 0, 2, 0);
        e.deliver(2, 0, 1, 0);
        e.gangs(3, 1, 2, 0);
        int[][] each = {{5, 5, 5, 5, 5}, {0, 0, 0, 0, 0}, {4, 4, 4, 4, 4}, {1, 5, 5, 5, 0}, {4, 4, 4, 4, 4}};
        for (int p = 0; p < 5; p++) {
            for (int w = 0; w < 5; w++) {
                due("PLOT " + p + " in " + w, e.lacks(p, w, 0), each[p][w]);
            }
        }
        at("promise 16: as known");
        WarHouses z = new WarHouses();
        z.plot(0, 0, 1, 0);
        due("no START", z.lacks(0, 259, 259), 1);
        z.start(0, 3, 7);
        due("none known", z.lacks(0, 259, 6), 1);
        due("no START by then", z.lacks(0, 2, 7), 1);
        due("DONE", z.lacks(0, 3, 7), 0);
        law(z, "licence brick 0", 0, 8);
        due("not LICENSED as known", z.lacks(0, 3, 8), 2);
        due("LICENSED as known", z.lacks(0, 3, 7), 0);
        due("no START ahead of no LICENCE", z.lacks(0, 2, 8), 1);
        at("promise 16: LATE by 0; needs of its STAGE");
        WarHouses w = under("need brick base bricks 1;need brick shell bricks 1;need brick fit bricks 1");
        w.plot(0, 0, 1, 0);
        w.start(0, 0, 0);
        w.deliver(0, 1, 1, 0);
        w.deliver(0, 3, 2, 0);
        w.knock(0, 9);
        int[] of = {4, 4, 4, 0};
        for (int i = 0; i < of.length; i++) {
            due("in " + i, w.lacks(0, i, 0), of[i]);
        }
    }

    private static void knocks() {
        at("Terms III: KNOCK of n: how many WEEKS the PLOTS together are DONE later in the RUN LATE by n");
        WarHouses x = under("need brick base bricks 1;need hut base timber 1");
        for (int p = 0; p < 4; p++) {
            x.plot(0, p == 3 ? 2 : 0, 1, 0);
            x.start(p, 0, 0);
        }
        x.deliver(0, 5, 2, 0);
        x.deliver(1, 5, 1, 0);
        for (int n = 1; n <= 26; n++) {
            due("of two PLOTS", x.knock(0, n), 2 * n);
        }
        x.deliver(0, 240, 1, 0);
        due("of a third", x.knock(0, 19), 57);
        at("Terms III: one that isn't DONE by WEEK 259 counts as of WEEK 260");
        due("just not", x.knock(0, 20), 60);
        due("nor then", x.knock(0, 21), 62);
        due("nor then", x.knock(0, 26), 72);
        at("Terms III: those done in the latter alone");
        WarHouses y = under("need brick base bricks 1;need brick base timber 5;need hut base timber 5");
        y.plot(0, 0, 1, 0);
        y.plot(0, 2, 1, 0);
        y.start(0, 0, 0);
        y.start(1, 0, 0);
        y.deliver(0, 0, 1, 0);
        y.deliver(1, 0, 5, 0);
        due("the hut is built only if bricks are late", y.built(1, 0, 0, 2), NONE);
        due("the hut is built only if bricks are late", y.built(1, 0, 1, 2), 0);
        due("it doesn't count", y.knock(0, 1), 260);
        at("Terms III: together");
        y.deliver(1, 9, 5, 0);
        due("what one loses another gains", y.knock(0, 1), 9 - 9);
        y.deliver(1, 4, 5, 8);
        due("as known", y.knock(7, 5), 0);
        due("as known", y.knock(8, 5), 5 - 4);
        at("promise 17: of 30 PLOTS");
        WarHouses all = under("need brick base bricks 1");
        for (int p = 0; p < 30; p++) {
            all.plot(p % 6, 0, 1, 0);
            all.start(p, p, 0);
            all.deliver(0, p, 1, 0);
        }
        due("together", all.knock(0, 26), 30 * 26);
        due("the last", all.built(29, 0, 26, 2), 55);
        due("the last", all.lacks(29, 28, 0), 1);
        at("promise 17: of no PLOTS");
        due("knock", new WarHouses().knock(0, 26), 0);
        at("Terms III: SHELLED, DONE and LATE do not change one another");
        due("asked in turn", x.built(0, 0, 3, 2), 8);
        due("asked in turn", x.built(0, 0, 0, 2), 5);
        due("asked in turn", x.stock(0, 5, 0, 3), 0);
        due("asked in turn", x.knock(0, 2), 6);
        due("asked in turn", x.built(0, 0, 4, 2), 9);
    }

    // ------------------------------------------------------------ a QUARTER's choice

    /** PLOTS of COUNCIL 0 and of these ROOMS, all WISHED. */
    private static WarHouses wished(String text, int kind, int... rooms) {
        WarHouses x = under(text);
        for (int p = 0; p < rooms.length; p++) {
            x.plot(0, kind, rooms[p], 0);
            x.wish(p);
        }
        return x;
    }

    private static void wishes() {
        at("promise 18: how many are; Terms IV: WISHED PLOTS, 6 at most (none with a START)");
        WarHouses x = new WarHouses();
        for (int p = 0; p < 9; p++) {
            x.plot(0, 0, 1, 0);
        }
        x.start(7, 0, 0);
        x.start(8, 259, 259);
        told(x, "wish of one with a START", x.wish(7), -3);
        told(x, "wish of one with a START (of any WEEK of knowing)", x.wish(8), -3);
        for (int p = 0; p < 6; p++) {
            told(x, "wish", x.wish(5 - p), p + 1);
            due("WISHES", x.count(5), p + 1);
        }
        told(x, "the seventh", x.wish(6), -5);
        told(x, "twice", x.wish(0), -4);
        told(x, "twice", x.wish(5), -4);
        due("WISHES", x.count(5), 6);
        at("promise 19: WISHES are none: how many there were");
        x.plot(9, 9, 9, 9);
        due("clear", x.clear(), 6);
        due("status is of the calls told", x.status(), -1);
        due("WISHES", x.count(5), 0);
        due("clear", x.clear(), 0);
        told(x, "wish again", x.wish(6), 1);
        told(x, "wish again", x.wish(0), 2);
        at("promise 13: a START behind clear(), and then no wish");
        x.clear();
        told(x, "start", x.start(0, 0, 0), 3);
        told(x, "wish", x.wish(0), -3);
    }

    private static void rows() {
        at("Terms IV: 0 none, 1, 2, 3 a START in the QUARTER's WEEK 0, 4, 8; DONE by its last WEEK");
        int[] most = {13, 9, 5};
        for (int begun = 1; begun <= 3; begun++) {
            for (int q = 0; q < 20; q += 19) {
                int work = most[begun - 1];
                WarHouses x = wished("work hut fit " + work, 2, 3);
                x.gangs(0, 1, 0, 0);
                due("in time", x.judge(q, begun), 30);
                WarHouses y = wished("work hut fit " + (work + 1), 2, 3);
                y.gangs(0, 1, 0, 0);
                due("one WEEK too late", y.judge(q, begun), 1);
                due("not begun", y.judge(q, 0), 0);
            }
        }
        at("promise 23: two bits for each WISH, the lowest first; HOUSED times 10 and SHELLS");
        WarHouses x = new WarHouses();
        int[] rooms = {1, 2, 3, 4, 5, 6};
        for (int p = 0; p < 6; p++) {
            x.plot(0, 2, rooms[p], 0);
        }
        for (int p = 0; p < 6; p++) {
            x.wish(p);
        }
        for (int p = 0; p < 6; p++) {
            for (int begun = 1; begun <= 3; begun++) {
                due("one alone", x.judge(3, begun << 2 * p), rooms[p] * 10);
            }
        }
        due("all", x.judge(3, 4095), 210);
        at("promise 23: bits beyond can't be");
        due("beyond", x.judge(3, 4096), NONE);
        due("beyond", x.judge(3, -1), NONE);
        x.clear();
        due("without WISHES", x.judge(3, 0), 0);
        due("without WISHES", x.judge(3, 1), NONE);
        x.wish(5);
        due("of one", x.judge(3, 3), 60);
        due("of one", x.judge(3, 4), NONE);
        at("Terms IV: SHELLS: WISHED PLOTS that began a STAGE (took needs) and aren't DONE by then");
        WarHouses y = wished("need hut base kits 1;work hut fit 1;work brick fit 9", 2, 1, 1, 1);
        y.plot(0, 0, 1, 0);
        y.start(3, 0, 0);
        y.deliver(4, 1, 2, 0);
        due("one that took none isn't one, nor is one that isn't WISHED", y.judge(0, 1 + 4 + 16), 2);
        y.gangs(0, 1, 10, 0);
        due("some are DONE", y.judge(0, 1 + 4 + 16), 20);
        due("begun last", y.judge(0, 1 + 4 + 48), 20);
        WarHouses z = wished("work hut base 20", 2, 1, 1, 1, 1, 1, 1);
        due("six SHELLS", z.judge(0, 4095), 6);
        at("Terms IV: by its last WEEK, not behind it");
        WarHouses w = wished("need hut base kits 1", 2, 1);
        w.deliver(4, 13, 1, 0);
        due("took in the next QUARTER", w.judge(0, 1), 0);
        due("the next QUARTER", w.judge(1, 1), 10);
        w.deliver(4, 12, 1, 0);
        due("took in the last WEEK", w.judge(0, 1), 10);
    }

    private static void besidesOthers() {
        at("Terms IV: besides those known in its first WEEK w (all as known in w)");
        WarHouses x = wished("need hut base kits 1", 2, 5);
        x.deliver(4, 13, 1, 13);
        due("known in that WEEK", x.judge(1, 1), 50);
        WarHouses y = wished("need hut base kits 1", 2, 5);
        y.deliver(4, 13, 1, 14);
        due("not known in that WEEK", y.judge(1, 1), 0);
        WarHouses z = wished("need hut base kits 1", 2, 5);
        z.deliver(4, 0, 1, 0);
        z.plot(0, 2, 1, 0);
        z.start(1, 13, 14);
        due("a START that isn't known", z.judge(1, 1), 50);
        z.start(1, 14, 13);
        due("a START behind it", z.judge(1, 1), 50);
        due("a START ahead of it", z.judge(1, 2), 0);
        z.start(1, 12, 12);
        due("the first told of those known counts", z.judge(1, 1), 50);
        due("as known in the next QUARTER: of the same WEEK, with a higher number", z.judge(2, 1), 0);
        WarHouses w = wished("rent 0", 2);
        law(w, "licence hut 1", 0, 0);
        w.plot(0, 2, 2, 0);
        w.plot(0, 2, 3, 0);
        w.plot(0, 2, 4, 0);
        w.wish(2);
        w.wish(1);
        w.start(0, 17, 13);
        due("a LICENCE ahead of it in the QUARTER", w.judge(1, 2), 0);
        due("a LICENCE behind it in the QUARTER", w.judge(1, 3), 0);
        due("its START is the first", w.judge(1, 1), 40);
        due("one of both in the same WEEK: the lower number", w.judge(1, 1 + 4), 30);
        due("the other begun later", w.judge(1, 1 + 8), 40);
        due("in the QUARTER ahead of it", w.judge(0, 3), 40);
        WarHouses v = wished("licence brick 9", 0, 2);
        law(v, "licence brick 0", 13, 14);
        law(v, "licence brick 0", 26, 26);
        due("an ACT that isn't known", v.judge(1, 1), 20);
        due("an ACT that is known", v.judge(2, 1), 0);
        at("Terms IV: LATE by 0");
        WarHouses u = wished("need brick base bricks 1", 0, 2);
        u.deliver(0, 12, 1, 0);
        u.knock(0, 1);
        u.stock(0, 0, 0, 5);
        due("in time", u.judge(0, 1), 20);
        at("Terms IV: nothing of a choice is told");
        due("STARTS", u.count(4), 0);
        u.best(0);
        due("no START", u.built(0, 259, 0, 2), NONE);
        due("no START", u.lacks(0, 259, 259), 1);
        told(u, "still WISHED", u.wish(0), -4);
    }

    private static void best() {
        at("promise 20: HOUSED; promise 21: NONE without");
        WarHouses x = new WarHouses();
        due("chosen of none", x.chosen(0), NONE);
        due("SHELLS of none", x.chosen(NONE), NONE);
        due("best without WISHES", x.best(0), 0);
        due("SHELLS of that", x.chosen(NONE), 0);
        due("chosen of that", x.chosen(0), NONE);
        at("Terms IV: the greatest HOUSED");
        WarHouses y = wished("need hut base kits rooms * rooms", 2, 3, 4, 5);
        y.deliver(4, 0, 25, 0);
        due("two of 3 and 4, not one of 5", y.best(0), 7);
        due("chosen", y.chosen(0), 1);
        due("chosen", y.chosen(1), 1);
        due("chosen", y.chosen(2), 0);
        due("chosen beyond", y.chosen(3), NONE);
        due("chosen beyond", y.chosen(-2), NONE);
        due("judged alike", y.judge(0, 5), 70);
        at("Terms IV: of alike ones the fewest SHELLS");
        WarHouses z = wished("work hut base week + 1", 2, 2, 2);
        z.gangs(0, 1, 0, 0);
        due("one alone in time", z.judge(0, 1), 20);
        due("both", z.judge(0, 5), 40);
        WarHouses w = wished("work hut base 7", 2, 2, 2);
        w.gangs(0, 1, 0, 0);
        due("only one in time", w.best(0), 2);
        due("no SHELL beside it", w.chosen(NONE), 0);
        due("the first as rows: the second WISH", w.chosen(0), 0);
        due("begun at once", w.chosen(1), 1);
        due("with a SHELL it is no better", w.judge(0, 5), 21);
        WarHouses v = wished("work brick base 99", 0, 6, 1);
        due("none in time", v.best(0), 0);
        due("and no SHELLS", v.chosen(NONE), 0);
        due("so none begun", v.chosen(0), 0);
        due("so none begun", v.chosen(1), 0);
        WarHouses u = wished("need hut base kits 1;work hut base 2", 2, 1, 1);
        u.gangs(0, 1, 0, 0);
        u.deliver(4, 0, 2, 0);
        u.plot(0, 2, 6, 0);
        due("both", u.best(0), 2);
        at("Terms IV: then the first as rows");
        WarHouses t = wished("rent 0", 2);
        t.plot(0, 2, 1, 0);
        t.plot(0, 2, 1, 3);
        t.plot(0, 2, 1, 9);
        t.wish(2);
        t.wish(1);
        t.wish(0);
        due("all in time whenever they are begun", t.best(0), 3);
        for (int i = 0; i < 3; i++) {
            due("begun first", t.chosen(i), 1);
        }
        WarHouses s = wished("licence hut 1", 2, 2, 2, 2);
        due("one LICENCE", s.best(0), 2);
        int[] row = {0, 0, 1};
        for (int i = 0; i < 3; i++) {
            due("the first as rows", s.chosen(i), row[i]);
        }
        at("promise 20: kept as the latest; NONE for a QUARTER that can't be");
        due("best", s.best(20), NONE);
        due("best", s.best(-1), NONE);
        due("the latest stays", s.chosen(2), 1);
        s.judge(0, 1);
        s.bound(0);
        due("and behind judge() and bound()", s.chosen(0), 0);
        law(s, "licence hut 9", 13, 0);
        due("of another QUARTER", s.best(1), 6);
        due("the latest", s.chosen(0), 1);
        due("best of six", six().best(19), 21);
    }

    private static void bestOfMany() {
        at("Terms IV: the greatest HOUSED, whenever it is begun");
        WarHouses x = wished("work hut fit 99 if week < 8", 2, 3, 5);
        due("both begun last", x.best(0), 8);
        due("chosen", x.chosen(0), 3);
        due("chosen", x.chosen(1), 3);
        WarHouses m = wished("work hut fit 99 if week < 4 or week > 7", 2, 3, 5, 1);
        due("all begun in between", m.best(0), 9);
        for (int i = 0; i < 3; i++) {
            due("chosen", m.chosen(i), 2);
        }
        at("Terms IV: DONE by the QUARTER's last WEEK");
        int[] most = {13, 14};
        for (int work : most) {
            WarHouses y = wished("work hut fit " + work, 2, 3);
            y.gangs(0, 1, 0, 0);
            due("of " + work + " WEEKS", y.best(0), work == 13 ? 3 : 0);
            due("of " + work + " WEEKS", y.best(19), work == 13 ? 3 : 0);
            due("of " + work + " WEEKS", y.bound(19), work == 13 ? 3 : 0);
        }
        at("Terms IV: of alike ones the fewest SHELLS, which need not be none");
        WarHouses z = under("need brick base kits 5;need hut base kits 5;work brick base 99;work hut fit 99 if not week = 6");
        z.plot(0, 0, 6, 0);
        z.plot(0, 2, 1, 0);
        z.deliver(4, 0, 5, 0);
        z.deliver(4, 6, 5, 0);
        z.wish(0);
        z.wish(1);
        due("what the other took keeps it waiting for a good WEEK", z.best(0), 1);
        due("one SHELL", z.chosen(NONE), 1);
        due("the other is begun", z.chosen(0), 1);
        due("it is begun", z.chosen(1), 1);
        due("judged", z.judge(0, 5), 11);
        due("without it", z.judge(0, 4), 1);
        at("promise 20: kept as the latest");
        due("a worse one", z.best(1), 0);
        due("SHELLS", z.chosen(NONE), 0);
        due("none begun", z.chosen(0), 0);
        due("none begun", z.chosen(1), 0);
        at("Terms IV: each ROW by itself, whatever was asked ahead of it");
        WarHouses w = under("need hut base kits 1;need brick base kits 3");
        law(w, "need hut base kits 7;need brick base kits 2;first brick", 5, 0);
        law(w, "need hut base kits 4;first hut", 9, 0);
        w.plot(0, 2, 1, 0);
        w.plot(0, 0, 2, 0);
        w.deliver(4, 4, 1, 0);
        w.deliver(4, 8, 1, 0);
        w.deliver(4, 10, 2, 0);
        w.wish(0);
        w.wish(1);
        int[] rows = {0, 10, 10, 10, 20, 30, 30, 20, 20, 30, 30, 20, 20, 30, 30, 20};
        for (int r = 0; r < 16; r++) {
            due("ROW " + r, w.judge(0, r), rows[r]);
        }
        due("best", w.best(0), 3);
        for (int r = 15; r >= 0; r--) {
            due("ROW " + r, w.judge(0, r), rows[r]);
        }
    }

    private static WarHouses six() {
        WarHouses x = new WarHouses();
        for (int p = 0; p < 6; p++) {
            x.plot(p, p % 3, p + 1, 247);
            x.wish(p);
        }
        return x;
    }

    private static void bound() {
        at("Terms IV: BOUND: the ROOMS of those that are DONE in time in some ROW in which all others are 0");
        WarHouses x = wished("need hut base kits 5", 2, 2, 3, 4);
        x.deliver(4, 0, 5, 0);
        due("each alone", x.bound(0), 9);
        due("together one", x.best(0), 4);
        due("in a later QUARTER", x.bound(19), 9);
        for (int begun = 1; begun <= 3; begun++) {
            int week = (begun - 1) * 4;
            WarHouses y = wished("work hut fit 99 if not week = " + week, 2, 5);
            due("in time only if begun in " + week, y.bound(0), 5);
            for (int other = 0; other <= 3; other++) {
                due("begun in " + other, y.judge(0, other), other == 0 ? 0 : other == begun ? 50 : 1);
            }
            due("so is the best", y.best(0), 5);
            due("begun", y.chosen(0), begun);
            due("not in the next QUARTER", y.bound(1), 0);
            due("not in the next QUARTER", y.best(1), 0);
        }
        WarHouses twelve = wished("work hut fit 99 if not week = 12", 2, 5);
        due("there is no START in its WEEK 12", twelve.bound(0), 0);
        due("there is no START in its WEEK 12", twelve.best(0), 0);
        for (int never = 0; never < 3; never++) {
            WarHouses some = under("work brick fit 99");
            for (int p = 0; p < 3; p++) {
                some.plot(0, p == never ? 0 : 2, p + 1, 0);
                some.wish(p);
            }
            due("all but one", some.bound(0), 6 - (never + 1));
            due("all but one", some.best(0), 6 - (never + 1));
            WarHouses one = under("work brick fit 99");
            for (int p = 0; p < 3; p++) {
                one.plot(0, p == never ? 2 : 0, p + 1, 0);
                one.wish(p);
            }
            due("one alone", one.bound(0), never + 1);
            due("one alone", one.best(0), never + 1);
        }
        WarHouses z = wished("work hut base 14", 2, 5, 1);
        z.gangs(0, 2, 0, 0);
        due("none in time", z.bound(0), 0);
        WarHouses w = wished("rent 0", 2);
        due("without WISHES", w.bound(0), 0);
        WarHouses v = wished("need hut base kits 5", 2, 2, 3);
        v.plot(0, 2, 1, 0);
        v.start(2, 0, 0);
        v.deliver(4, 0, 9, 0);
        due("a START that is known runs besides", v.bound(1), 0);
        v.deliver(4, 13, 1, 0);
        due("enough for one more", v.bound(1), 5);
        at("Terms IV: (all as known in w)");
        WarHouses k = wished("need hut base kits 1", 2, 5);
        k.deliver(4, 0, 1, 13);
        due("not known", k.bound(0), 0);
        due("known", k.bound(1), 5);
        due("not known", k.best(0), 0);
        due("known", k.best(1), 5);
        WarHouses later = wished("need hut base kits 1", 2, 5);
        later.deliver(4, 0, 1, 14);
        due("not known", later.bound(1), 0);
        due("not known", later.best(1), 0);
        due("known", later.bound(2), 5);
        due("known", later.best(2), 5);
        at("promise 22: NONE");
        due("bound", v.bound(20), NONE);
        due("bound", v.bound(-1), NONE);
    }

    public static void main(String[] args) {
        deliveries();
        knownFrom();
        toldAnew();
        allFull();
        lateBricks();
        works();
        gangs();
        plotsAndStarts();
        needs();
        stages();
        turns();
        licences();
        builtAndLacks();
        lacks();
        knocks();
        wishes();
        rows();
        besidesOthers();
        best();
        bestOfMany();
        bound();
        finish("building");
    }
}

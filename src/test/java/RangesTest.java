import java.lang.reflect.Method;
import java.util.ArrayList;
import java.util.Arrays;
import java.util.List;
import java.util.Set;

/**
 * Terms I: each number of each call at the least and the most that it can be and just beyond; what a call is REFUSED by,
 * the first in the order told; and that what was REFUSED, or only asked, changes nothing.
 */
public final class RangesTest extends Checks {
    private static final Set<String> TELLING = Set.of("act", "deliver", "works", "gangs", "plot", "start", "wish", "entry",
        "mark", "offer", "squat", "out", "lodge", "target", "claim", "look", "image", "back");

    // Of a number: the least and the most that it can be, and what is answered beyond.
    private static final int[] WEEK = {0, 259, -1};
    private static final int[] QUARTER = {0, 19, -1};
    private static final int[] COUNCIL = {0, 5, -1};
    private static final int[] KIND = {0, 2, -1};
    private static final int[] MATERIAL = {0, 4, -1};
    private static final int[] STAGE = {0, 2, -1};
    private static final int[] ROOMS = {1, 6, -1};
    private static final int[] LATE = {0, 26, -1};
    private static final int[] STREET = {0, 19, -1};
    private static final int[] IMAGE = {0, 2, -1};

    private static int[] to(int least, int most) {
        return new int[] {least, most, -1};
    }

    /** Of PLOTS or ENTRIES of which there are so many, in a telling call. */
    private static int[] first(int many) {
        return new int[] {0, many - 1, -2};
    }

    private static int[] orNothing(int[] range) {
        return new int[] {range[0], range[1], NOTHING};
    }

    private static int[] usual(int... values) {
        return values;
    }

    // ------------------------------------------------------------ towns in which the calls have something to tell of

    private static WarHouses laws() {
        WarHouses x = under("need hut base kits 1;points 5 + ill;licence brick 9;licence steel 9;licence hut 9;"
            + "rent 5;huts 9;squat 10000;first brick");
        law(x, "points 1;strike 0 clause 4", 9, 9);
        return x;
    }

    /** Three HOMES and three ENTRIES, one for each. */
    private static WarHouses homes() {
        WarHouses x = laws();
        for (int i = 0; i < 3; i++) {
            x.plot(0, 0, 3, 0);
            x.start(i, 0, 0);
            x.entry(0, 0, 2, 1, 0, i % 2, 0);
        }
        return x;
    }

    private static WarHouses lived() {
        WarHouses x = homes();
        x.offer(0);
        return x;
    }

    private static WarHouses squatted() {
        WarHouses x = homes();
        for (int i = 0; i < 3; i++) {
            x.squat(i, i, 0);
        }
        return x;
    }

    /** Two WISHES besides, and something of all else. */
    private static WarHouses town() {
        WarHouses x = lived();
        x.deliver(4, 0, 1, 0);
        x.works(4, 1, 4, 1, 0, 1, 1, 9);
        x.gangs(0, 1, 0, 0);
        x.plot(0, 2, 2, 0);
        x.plot(5, 2, 1, 0);
        x.wish(3);
        x.wish(4);
        x.best(1);
        x.entry(5, 9, 2, 0, 0, 0, 9);
        x.mark(0, 2, 5);
        x.lodge(0, 3, 0, 9);
        x.target(0, 0, 3);
        x.claim(0, 0, 0, 4);
        x.look(0, 0, 0, 2);
        x.image(0);
        x.image(1);
        x.image(2);
        return x;
    }

    private static WarHouses unwished() {
        WarHouses x = laws();
        for (int i = 0; i < 3; i++) {
            x.plot(0, 0, 1, 0);
        }
        return x;
    }

    private static WarHouses taped() {
        WarHouses x = laws();
        write(x, "points 7");
        return x;
    }

    private static WarHouses make(String which) {
        switch (which) {
            case "homes":
                return homes();
            case "lived":
                return lived();
            case "squatted":
                return squatted();
            case "unwished":
                return unwished();
            case "taped":
                return taped();
            default:
                return town();
        }
    }

    /** What a few of all the calls that only ask answer. */
    private static int[] look(WarHouses x) {
        List<Integer> seen = new ArrayList<>();
        for (int what = 0; what < 10; what++) {
            seen.add(x.count(what));
        }
        seen.add(x.fault());
        seen.add(x.chosen(NONE));
        for (int i = 0; i < 6; i++) {
            seen.add(x.counts(i, 259, 259));
            seen.add(x.chosen(i));
            seen.add(x.force(1, i, 259, 259));
            seen.add(x.need(2, 0, i, 1, 259, 259));
            seen.add(x.stock(i, 259, 259, 0));
            seen.add(x.truth(0, 0, i));
            seen.add(x.truth(5, 19, i));
            seen.add(x.built(i, 259, 0, 2));
            seen.add(x.lacks(i, 0, 259));
            seen.add(x.lives(i, 259, 0));
            seen.add(x.lives(i, 0, 0));
            seen.add(x.under(i, 5));
            seen.add(x.rent(i, 259, 259));
            seen.add(x.family(i, 259));
            seen.add(x.points(i, 259, 259));
            seen.add(x.roof(i, 259));
            seen.add(x.order(0, 259, 259, i));
            seen.add(x.judge(1, i));
        }
        seen.add(x.knock(259, 26));
        seen.add(x.bound(1));
        int[] all = new int[seen.size()];
        for (int i = 0; i < all.length; i++) {
            all[i] = seen.get(i);
        }
        return all;
    }

    // ------------------------------------------------------------ numbers of calls

    private static int call(WarHouses x, String name, int[] values) {
        try {
            Class<?>[] types = new Class<?>[values.length];
            Object[] boxed = new Object[values.length];
            for (int i = 0; i < values.length; i++) {
                types[i] = int.class;
                boxed[i] = values[i];
            }
            Method m = WarHouses.class.getMethod(name, types);
            return (Integer) m.invoke(x, boxed);
        } catch (ReflectiveOperationException e) {
            throw new IllegalStateException(name, e);
        }
    }

    private static void canBe(String which, String name, int[] values) {
        WarHouses x = make(which);
        String what = name + Arrays.toString(values);
        if (TELLING.contains(name)) {
            holds(what + " can be", call(x, name, values) >= 0);
            due("status behind " + what, x.status(), 0);
            return;
        }
        x.image(3);
        int[] before = look(x);
        int got = call(x, name, values);
        holds(what + " (answer " + got + ") can be", got >= 0);
        due("status behind " + what, x.status(), -1);
        if (!name.equals("best") && !name.equals("end")) {
            holds("what is asked behind " + what + " is as ahead of it", Arrays.equals(before, look(x)));
        }
    }

    private static void cannotBe(String which, String name, int[] values, int refusal) {
        WarHouses x = make(which);
        boolean tells = TELLING.contains(name);
        x.image(0);
        int[] before = look(x);
        if (!tells) {
            x.image(3);
        }
        String what = name + Arrays.toString(values);
        due(what, call(x, name, values), refusal);
        due("status behind " + what, x.status(), tells ? refusal : -1);
        int[] behind = look(x);
        if (name.equals("act")) {
            // Behind act() the TAPE is empty whatever it was refused by.
            behind[9] = before[9];
        }
        holds("what is asked behind " + what + " is as ahead of it", Arrays.equals(before, behind));
    }

    private static void numbers(String which, String name, int[] usual, int[]... ranges) {
        canBe(which, name, usual);
        for (int i = 0; i < ranges.length; i++) {
            int[] range = ranges[i];
            int[] good = {range[0], range[1]};
            int[] bad = {range[0] - 1, range[1] + 1, Integer.MIN_VALUE, Integer.MAX_VALUE};
            for (int value : good) {
                int[] values = usual.clone();
                values[i] = value;
                canBe(which, name, values);
            }
            for (int value : bad) {
                int[] values = usual.clone();
                values[i] = value;
                cannotBe(which, name, values, range[2]);
            }
        }
    }

    private static void ofActs() {
        at("Terms I, promises 3 to 8: numbers");
        numbers("taped", "end", usual(8), to(0, 8));
        numbers("taped", "act", usual(0, 0), WEEK, WEEK);
        numbers("town", "force", usual(0, 0, 0, 0), to(0, 1), to(0, 8), WEEK, WEEK);
        numbers("town", "force", usual(1, 0, 9, 9), to(0, 1), to(0, 1), WEEK, WEEK);
        numbers("town", "counts", usual(0, 0, 0), to(0, 5), WEEK, WEEK);
        numbers("town", "need", usual(0, 0, 0, 1, 0, 0), KIND, STAGE, to(0, 5), ROOMS, WEEK, WEEK);
    }

    private static void ofBuilding() {
        at("Terms I and III, promises 9 to 17: numbers");
        numbers("town", "deliver", usual(0, 0, 1, 0), MATERIAL, WEEK, to(1, 100_000), WEEK);
        numbers("town", "works", usual(0, 0, 0, 0, 0, 1, 0, 0), MATERIAL, to(0, 1000), MATERIAL, to(0, 1000), MATERIAL,
            to(1, 10_000), to(0, 100), WEEK);
        numbers("town", "gangs", usual(0, 0, 0, 0), COUNCIL, to(0, 50), WEEK, WEEK);
        numbers("town", "plot", usual(0, 0, 1, 0), COUNCIL, KIND, ROOMS, WEEK);
        numbers("unwished", "start", usual(0, 0, 0), first(3), WEEK, WEEK);
        numbers("town", "stock", usual(0, 0, 0, 0), MATERIAL, WEEK, WEEK, LATE);
        numbers("town", "built", usual(0, 0, 0, 6), to(0, 4), WEEK, LATE, to(0, 6));
        numbers("town", "lacks", usual(0, 0, 0), to(0, 4), WEEK, WEEK);
        numbers("town", "knock", usual(0, 1), orNothing(WEEK), orNothing(to(1, 26)));
    }

    private static void ofTheChoice() {
        at("Terms I and IV, promises 18 to 23: numbers");
        numbers("unwished", "wish", usual(0), first(3));
        numbers("town", "best", usual(0), QUARTER);
        numbers("town", "chosen", usual(0), to(-1, 1));
        numbers("town", "bound", usual(0), QUARTER);
        numbers("town", "judge", usual(0, 0), QUARTER, to(0, 15));
        numbers("unwished", "judge", usual(0, 0), QUARTER, to(0, 0));
    }

    private static void ofLists() {
        at("Terms I and V, promises 24 to 29: numbers");
        numbers("town", "entry", usual(0, 0, 20, 0, 0, 0, 0), COUNCIL, WEEK, to(1, 20), to(0, 19), to(0, 9), to(0, 1), WEEK);
        numbers("town", "entry", usual(0, 0, 5, 4, 0, 0, 0), COUNCIL, WEEK, to(5, 20), to(0, 4));
        numbers("town", "entry", usual(0, 0, 1, 0, 0, 0, 0), COUNCIL, WEEK, to(1, 20), to(0, 0));
        numbers("town", "mark", usual(1, 0, 0), first(4), to(0, 2), to(0, 9999));
        numbers("lived", "family", usual(0, 0), to(0, 2), WEEK);
        numbers("lived", "points", usual(0, 0, 0), orNothing(to(0, 2)), orNothing(WEEK), orNothing(WEEK));
        numbers("town", "order", usual(0, 0, 0, -1), COUNCIL, WEEK, WEEK, to(-1, 2));
        numbers("town", "beside", usual(0, 0, 0, 0), COUNCIL, WEEK, WEEK, WEEK);
    }

    private static void ofMoves() {
        at("Terms I and V, promises 30 to 37: numbers");
        numbers("homes", "offer", usual(0), WEEK);
        numbers("lived", "lives", usual(0, 0, 0), to(0, 2), WEEK, to(0, 2));
        numbers("lived", "roof", usual(0, 0), to(0, 2), WEEK);
        numbers("homes", "squat", usual(0, 0, 0), first(3), first(3), WEEK);
        numbers("squatted", "out", usual(0, 0), first(3), WEEK);
        numbers("lived", "rent", usual(0, 0, 0), to(0, 2), WEEK, WEEK);
        numbers("town", "lodge", usual(0, 1, 0, 259), first(5), to(1, 20), WEEK, WEEK);
        numbers("town", "lodge", usual(0, 1, 100, 100), first(5), to(1, 20), to(0, 100), to(100, 259));
        numbers("town", "under", usual(0, 0), to(0, 4), WEEK);
    }

    private static void ofTheRest() {
        at("Terms I and VI, promises 38 to 44: numbers");
        numbers("town", "target", usual(0, 0, 0), COUNCIL, QUARTER, to(0, 10_000));
        numbers("town", "claim", usual(0, 0, 0, 0), COUNCIL, QUARTER, STREET, to(0, 1000));
        numbers("town", "look", usual(0, 0, 0, 0), COUNCIL, QUARTER, STREET, to(0, 1000));
        numbers("town", "truth", usual(0, 0, 0), COUNCIL, QUARTER, to(0, 4));
        numbers("town", "image", usual(0), IMAGE);
        numbers("town", "back", usual(0), IMAGE);
        numbers("town", "count", usual(0), to(0, 9));
    }

    // ------------------------------------------------------------ the order of refusals

    /** Less than look(), as an object is used for 512 calls at most. */
    private static int[] glance(WarHouses x) {
        int[] seen = new int[14];
        for (int what = 0; what < 10; what++) {
            seen[what] = x.count(what);
        }
        seen[10] = x.lacks(0, 0, 259);
        seen[11] = x.under(0, 0);
        seen[12] = x.family(0, 0);
        seen[13] = x.stock(1, 259, 259, 0);
        return seen;
    }

    private static void refusedFirstBy(WarHouses x, int refusal, String name, int... values) {
        int[] before = glance(x);
        told(x, name + Arrays.toString(values), call(x, name, values), refusal);
        holds(name + " changes nothing", Arrays.equals(before, glance(x)));
    }

    private static void orderOfTelling() {
        at("Terms I: the first of -1, -5");
        WarHouses x = new WarHouses();
        for (int i = 0; i < 120; i++) {
            x.deliver(1, 0, 1, 0);
        }
        refusedFirstBy(x, -1, "deliver", 5, 0, 1, 0);
        refusedFirstBy(x, -5, "deliver", 4, 0, 1, 0);
        WarHouses y = new WarHouses();
        for (int i = 0; i < 60; i++) {
            y.gangs(0, 1, 0, 0);
        }
        refusedFirstBy(y, -1, "gangs", 0, 51, 0, 0);
        refusedFirstBy(y, -5, "gangs", 0, 50, 0, 0);
        WarHouses z = new WarHouses();
        for (int i = 0; i < 60; i++) {
            z.entry(0, 0, 1, 0, 0, 0, 0);
        }
        refusedFirstBy(z, -1, "entry", 0, 0, 1, 1, 0, 0, 0);
        refusedFirstBy(z, -5, "entry", 0, 0, 1, 0, 0, 0, 0);
        WarHouses w = new WarHouses();
        for (int i = 0; i < 30; i++) {
            w.plot(0, 0, 1, 0);
        }
        refusedFirstBy(w, -1, "plot", 0, 0, 7, 0);
        refusedFirstBy(w, -5, "plot", 0, 0, 6, 0);
        WarHouses v = new WarHouses();
        for (int i = 0; i < 8; i++) {
            v.works(0, 1, 0, 0, 0, 1, 0, 0);
        }
        refusedFirstBy(v, -1, "works", 0, 1, 0, 0, 0, 0, 0, 0);
        refusedFirstBy(v, -5, "works", 0, 1, 0, 0, 0, 1, 0, 0);
        at("Terms I: the first of -1, -2, -5");
        WarHouses u = new WarHouses();
        u.plot(0, 0, 1, 0);
        for (int i = 0; i < 40; i++) {
            u.lodge(0, 1, 0, 0);
        }
        refusedFirstBy(u, -1, "lodge", 1, 21, 0, 0);
        refusedFirstBy(u, -2, "lodge", 1, 20, 0, 0);
        refusedFirstBy(u, -5, "lodge", 0, 20, 0, 0);
        at("Terms I: the first of -1, -2");
        refusedFirstBy(u, -1, "back", 3);
        refusedFirstBy(u, -2, "back", 2);
    }

    private static void orderOfStarts() {
        at("Terms I: the first of -1, -2, -3, -5 (start)");
        WarHouses x = new WarHouses();
        x.plot(0, 0, 1, 0);
        x.plot(0, 0, 1, 0);
        for (int i = 0; i < 60; i++) {
            x.start(0, 0, 0);
        }
        x.wish(1);
        refusedFirstBy(x, -1, "start", 2, 260, 0);
        refusedFirstBy(x, -1, "start", 1, 0, 260);
        refusedFirstBy(x, -2, "start", 2, 0, 0);
        refusedFirstBy(x, -3, "start", 1, 0, 0);
        refusedFirstBy(x, -5, "start", 0, 0, 0);
        at("Terms I: the first of -2, -3, -4, -5 (wish)");
        WarHouses y = new WarHouses();
        for (int i = 0; i < 8; i++) {
            y.plot(0, 0, 1, 0);
        }
        y.start(7, 0, 259);
        for (int i = 0; i < 6; i++) {
            y.wish(i);
        }
        refusedFirstBy(y, -2, "wish", 8);
        refusedFirstBy(y, -3, "wish", 7);
        refusedFirstBy(y, -4, "wish", 5);
        refusedFirstBy(y, -5, "wish", 6);
        at("Terms I: the first of -1, -2, -4 (mark)");
        WarHouses z = new WarHouses();
        z.entry(0, 0, 1, 0, 0, 0, 259);
        z.mark(0, 0, 1);
        refusedFirstBy(z, -1, "mark", 1, 3, 0);
        refusedFirstBy(z, -1, "mark", 0, 0, 10_000);
        refusedFirstBy(z, -2, "mark", 1, 0, 0);
        refusedFirstBy(z, -4, "mark", 0, 0, 1);
        told(z, "mark of an ENTRY that isn't known yet", z.mark(0, 1, 1), 0);
    }

    private static void orderOfMoves() {
        at("Terms I: the first of -1, -5 (offer)");
        WarHouses x = new WarHouses();
        for (int i = 0; i < 100; i++) {
            x.offer(9);
        }
        refusedFirstBy(x, -1, "offer", 260);
        refusedFirstBy(x, -1, "offer", 8);
        refusedFirstBy(x, -5, "offer", 9);
        at("Terms I: the first of -1, -2, -3, -5 (squat)");
        WarHouses y = under("need hut base kits 1");
        y.plot(0, 0, 1, 0);
        y.plot(0, 2, 1, 0);
        y.start(0, 0, 0);
        y.entry(0, 0, 1, 0, 0, 0, 0);
        y.entry(0, 0, 1, 0, 0, 0, 10);
        for (int i = 0; i < 40; i++) {
            y.squat(0, 0, 9);
            y.out(0, 9);
        }
        refusedFirstBy(y, -1, "squat", 2, 2, 260);
        refusedFirstBy(y, -1, "squat", 2, 2, 8);
        refusedFirstBy(y, -1, "squat", 0, 0, 8);
        refusedFirstBy(y, -2, "squat", 2, 1, 9);
        refusedFirstBy(y, -2, "squat", 1, 1, 9);
        refusedFirstBy(y, -2, "squat", 0, 2, 9);
        refusedFirstBy(y, -3, "squat", 0, 1, 9);
        refusedFirstBy(y, -5, "squat", 0, 0, 9);
        at("Terms I: the first of -1, -2, -3 (out)");
        refusedFirstBy(y, -1, "out", 2, 8);
        refusedFirstBy(y, -1, "out", 0, 260);
        refusedFirstBy(y, -2, "out", 2, 9);
        refusedFirstBy(y, -3, "out", 0, 9);
    }

    public static void main(String[] args) {
        ofActs();
        ofBuilding();
        ofTheChoice();
        ofLists();
        ofMoves();
        ofTheRest();
        orderOfTelling();
        orderOfStarts();
        orderOfMoves();
        finish("ranges");
    }
}

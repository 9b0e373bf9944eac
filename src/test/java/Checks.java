/** What the tests have in common: an answer beside the one that is due, and TEXTS on the TAPE. */
abstract class Checks {
    static final int NONE = WarHouses.NONE;
    static final int NOTHING = -2_000_000_000;
    static final int MUCH = 1_000_000_000;
    private static String sentence = "";
    private static int asked;
    private static int wrong;

    /** The sentence of the document that the next answers are due by. */
    static void at(String words) {
        sentence = words;
    }

    static void due(String what, int got, int want) {
        asked++;
        if (got != want) {
            wrong++;
            System.out.println(sentence + ": " + what + " answered " + got + ", due is " + want);
        }
    }

    /** A telling call with its status. */
    static void told(WarHouses x, String what, int got, int want) {
        due(what, got, want);
        due("status behind " + what, x.status(), Math.min(want, 0));
    }

    static void holds(String what, boolean good) {
        due(what, good ? 1 : 0, 1);
    }

    static void write(WarHouses x, String text) {
        int before = x.count(9);
        StringBuilder t = new StringBuilder(text);
        while (t.length() % 20 != 0) {
            t.append(' ');
        }
        for (int i = 0; i < t.length(); i += 20) {
            int[] v = new int[5];
            for (int j = 0; j < 20; j++) {
                v[j / 4] = v[j / 4] << 8 | t.charAt(i + j);
            }
            x.feed(v[0], v[1], v[2], v[3], v[4]);
        }
        x.end(before + text.length());
    }

    static int law(WarHouses x, String text, int from, int known) {
        write(x, text);
        return x.act(from, known);
    }

    static WarHouses under(String text) {
        WarHouses x = new WarHouses();
        if (law(x, text, 0, 0) != 0) {
            due("act of '" + text + "', FAULT " + x.fault(), x.status(), 0);
        }
        return x;
    }

    static String times(String text, int n) {
        StringBuilder t = new StringBuilder();
        for (int i = 0; i < n; i++) {
            t.append(text);
        }
        return t.toString();
    }

    static void finish(String name) {
        System.out.println(name + ": " + (wrong == 0 ? asked + " answers are as due" : wrong + " answers are not as due"));
        if (wrong != 0) {
            System.exit(1);
        }
    }
}

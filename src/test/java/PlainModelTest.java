import java.util.ArrayList;
import java.util.Arrays;
import java.util.Comparator;
import java.util.List;
import java.util.Random;

/**
 * Random runs of calls, each answered by the class and by a second, plain and slow reading of the document
 * (trees, sorted lists, all worked out anew at every call). Every answer must be the same.
 */
public final class PlainModelTest {
    private static final int NONE = -1;
    private static final int NOTHING = -2_000_000_000;
    private static final int NEVER = 1_999_999_999;

    // ------------------------------------------------------------ texts as trees

    static final class Fault extends RuntimeException {
        private static final long serialVersionUID = 1L;
        final int place;

        Fault(int place) {
            this.place = place;
        }
    }

    static final class Broken extends RuntimeException {
        private static final long serialVersionUID = 1L;
    }

    static final class Node {
        final String op;
        final long number;
        final Node[] parts;

        Node(String op, long number, Node... parts) {
            this.op = op;
            this.number = number;
            this.parts = parts;
        }
    }

    static final class Clause {
        String key;
        int value;
        int struckAct;
        int struckClause;
        Node sum;
        Node test;
    }

    static final class Act {
        int from;
        int known;
        List<Clause> clauses;
    }

    static final class Parser {
        final String text;
        final List<String> tokens = new ArrayList<>();
        final List<Integer> places = new ArrayList<>();
        int at;
        int leaves;

        Parser(String text) {
            this.text = text;
            int i = 0;
            while (i < text.length()) {
                char c = text.charAt(i);
                int j = i + 1;
                if (c == ' ') {
                    i = j;
                    continue;
                }
                if (c >= 'a' && c <= 'z') {
                    while (j < text.length() && text.charAt(j) >= 'a' && text.charAt(j) <= 'z') {
                        j++;
                    }
                } else if (c >= '0' && c <= '9') {
                    while (j < text.length() && text.charAt(j) >= '0' && text.charAt(j) <= '9') {
                        j++;
                    }
                }
                tokens.add(text.substring(i, j));
                places.add(i);
                i = j;
            }
            tokens.add("");
            places.add(text.length());
        }

        String peek() {
            return tokens.get(at);
        }

        Fault fault() {
            return new Fault(places.get(at));
        }

        void eat(String token) {
            if (!peek().equals(token)) {
                throw fault();
            }
            at++;
        }

        boolean tryEat(String token) {
            if (peek().equals(token)) {
                at++;
                return true;
            }
            return false;
        }

        int word(String... words) {
            int i = Arrays.asList(words).indexOf(peek());
            if (i < 0) {
                throw fault();
            }
            at++;
            return i;
        }

        int number(int most) {
            String t = peek();
            if (t.isEmpty() || t.charAt(0) < '0' || t.charAt(0) > '9'
                    || new java.math.BigInteger(t).compareTo(java.math.BigInteger.valueOf(most)) > 0) {
                throw fault();
            }
            at++;
            return Integer.parseInt(t.replaceFirst("^0+(?=.)", ""));
        }

        List<Clause> all() {
            List<Clause> clauses = new ArrayList<>();
            do {
                if (clauses.size() == 16) {
                    throw fault();
                }
                clauses.add(clause());
            } while (tryEat(";"));
            if (!peek().isEmpty()) {
                throw fault();
            }
            return clauses;
        }

        Clause clause() {
            Clause c = new Clause();
            if (tryEat("strike")) {
                c.key = "strike";
                c.struckAct = number(23);
                eat("clause");
                c.struckClause = number(15);
                return c;
            }
            String head = new String[] {"need", "work", "points", "licence", "rent", "huts", "squat", "first"}[word(
                    "need", "work", "points", "licence", "rent", "huts", "squat", "first")];
            c.key = head;
            if (head.equals("need") || head.equals("work") || head.equals("licence") || head.equals("first")) {
                int kind = word("brick", "steel", "hut");
                c.value = kind;
                if (!head.equals("first")) {
                    c.key += " " + kind;
                }
            }
            if (head.equals("need") || head.equals("work")) {
                c.key += " " + word("base", "shell", "fit");
            }
            if (head.equals("need")) {
                c.key += " " + word("bricks", "timber", "steel", "coal", "kits");
            }
            if (!head.equals("first")) {
                c.sum = sum(0);
            }
            if (tryEat("if")) {
                c.test = test(0);
            }
            return c;
        }

        Node test(int depth) {
            Node left = both(depth);
            while (tryEat("or")) {
                left = new Node("or", 0, left, both(depth));
            }
            return left;
        }

        Node both(int depth) {
            Node left = plain(depth);
            while (tryEat("and")) {
                left = new Node("and", 0, left, plain(depth));
            }
            return left;
        }

        Node plain(int depth) {
            if (tryEat("not")) {
                return new Node("not", 0, plain(depth));
            }
            if (peek().equals("(")) {
                if (depth == 8) {
                    throw fault();
                }
                at++;
                Node inner = test(depth + 1);
                eat(")");
                return inner;
            }
            Node left = sum(depth);
            String sign = new String[] {"<", ">", "="}[word("<", ">", "=")];
            return new Node(sign, 0, left, sum(depth));
        }

        Node sum(int depth) {
            Node left = term(depth);
            while (peek().equals("+") || peek().equals("-")) {
                String sign = tokens.get(at++);
                left = new Node(sign, 0, left, term(depth));
            }
            return left;
        }

        Node term(int depth) {
            Node left = part(depth);
            while (peek().equals("*") || peek().equals("/")) {
                String sign = tokens.get(at++);
                left = new Node(sign, 0, left, part(depth));
            }
            return left;
        }

        Node part(int depth) {
            String t = peek();
            boolean digits = !t.isEmpty() && t.charAt(0) >= '0' && t.charAt(0) <= '9';
            if (digits || Arrays.asList(SETTINGS).contains(t)) {
                if (leaves == 60) {
                    throw fault();
                }
                leaves++;
                return digits ? new Node("number", number(10_000)) : new Node("setting", word(SETTINGS));
            }
            if (t.equals("[") || t.equals("least") || t.equals("most")) {
                if (depth == 8) {
                    throw fault();
                }
                at++;
                if (t.equals("[")) {
                    Node inner = sum(depth + 1);
                    eat("]");
                    return inner;
                }
                eat("[");
                Node one = sum(depth + 1);
                eat(",");
                Node other = sum(depth + 1);
                eat("]");
                return new Node(t, 0, one, other);
            }
            throw fault();
        }
    }

    private static final String[] SETTINGS = {"rooms", "persons", "children", "ill", "waited", "have", "week"};

    static long eval(Node n, long[] set) {
        switch (n.op) {
            case "number":
                return n.number;
            case "setting":
                return set[(int) n.number];
            case "not":
                return eval(n.parts[0], set) == 0 ? 1 : 0;
            case "or":
                return eval(n.parts[0], set) != 0 ? 1 : eval(n.parts[1], set);
            case "and":
                return eval(n.parts[0], set) == 0 ? 0 : eval(n.parts[1], set);
            default:
                break;
        }
        long a = eval(n.parts[0], set);
        long b = eval(n.parts[1], set);
        long v;
        switch (n.op) {
            case "<":
                return a < b ? 1 : 0;
            case ">":
                return a > b ? 1 : 0;
            case "=":
                return a == b ? 1 : 0;
            case "+":
                v = a + b;
                break;
            case "-":
                v = a - b;
                break;
            case "*":
                v = a * b;
                break;
            case "/":
                if (b == 0) {
                    throw new Broken();
                }
                v = a / b;
                break;
            case "least":
                v = Math.min(a, b);
                break;
            default:
                v = Math.max(a, b);
                break;
        }
        if (Math.abs(v) > 1_000_000_000L) {
            throw new Broken();
        }
        return v;
    }

    // ------------------------------------------------------------ the plain model

    static final class Stay {
        int plot;
        int entry;
        int from;
        int lives;
        int end;
        int left = NEVER;
        int chain;

        Stay copy() {
            Stay s = new Stay();
            s.plot = plot;
            s.entry = entry;
            s.from = from;
            s.lives = lives;
            s.end = end;
            s.left = left;
            s.chain = chain;
            return s;
        }

        boolean here(int week) {
            return from <= week && week < end && week < left;
        }

        boolean living(int week) {
            return here(week) && week >= lives;
        }
    }

    static final class State {
        List<Act> acts = new ArrayList<>();
        List<int[]> deliveries = new ArrayList<>();
        List<int[]> works = new ArrayList<>();
        List<int[]> gangs = new ArrayList<>();
        List<int[]> plots = new ArrayList<>();
        List<int[]> starts = new ArrayList<>();
        List<int[]> entries = new ArrayList<>();
        List<int[]> lodgers = new ArrayList<>();
        List<Stay> stays = new ArrayList<>();
        Integer[][] targets = new Integer[6][20];
        Integer[][][] claims = new Integer[6][20][20];
        Integer[][][] looks = new Integer[6][20][20];
        int offers;
        int moves;
        int squats;
        int lastWeek;

        static List<int[]> copy(List<int[]> rows) {
            List<int[]> out = new ArrayList<>();
            for (int[] r : rows) {
                out.add(r.clone());
            }
            return out;
        }

        State copy() {
            State s = new State();
            s.acts = new ArrayList<>(acts);
            s.deliveries = copy(deliveries);
            s.works = copy(works);
            s.gangs = copy(gangs);
            s.plots = copy(plots);
            s.starts = copy(starts);
            s.entries = copy(entries);
            s.lodgers = copy(lodgers);
            for (Stay stay : stays) {
                s.stays.add(stay.copy());
            }
            for (int c = 0; c < 6; c++) {
                s.targets[c] = targets[c].clone();
                for (int q = 0; q < 20; q++) {
                    s.claims[c][q] = claims[c][q].clone();
                    s.looks[c][q] = looks[c][q].clone();
                }
            }
            s.offers = offers;
            s.moves = moves;
            s.squats = squats;
            s.lastWeek = lastWeek;
            return s;
        }
    }

    static final class Outcome {
        int[][] took;
        int[][] over;
        int[][] began;
        boolean[] licensed;
        int[] start;
        int[][] stock;
    }

    static final class Plain {
        State s = new State();
        State[] images = new State[3];
        StringBuilder tape = new StringBuilder();
        int status;
        int fault = NONE;
        List<Integer> wishes = new ArrayList<>();
        int[] best;
        int bestShells;

        int say(int v) {
            status = Math.min(v, 0);
            return v;
        }

        static boolean in(int v, int a, int b) {
            return v >= a && v <= b;
        }

        static boolean weeks(int... ws) {
            for (int w : ws) {
                if (!in(w, 0, 259)) {
                    return false;
                }
            }
            return true;
        }

        boolean plotIs(int p) {
            return in(p, 0, s.plots.size() - 1);
        }

        int feed(int... five) {
            if (tape.length() + 20 > 400) {
                return NONE;
            }
            for (int v : five) {
                for (int sh = 24; sh >= 0; sh -= 8) {
                    tape.append((char) (v >>> sh & 255));
                }
            }
            return tape.length();
        }

        int end(int n) {
            if (n < 0 || n > tape.length()) {
                return NONE;
            }
            tape.setLength(n);
            return n;
        }

        int act(int from, int known) {
            String text = tape.toString();
            tape.setLength(0);
            if (!weeks(from, known)) {
                return say(-1);
            }
            if (s.acts.size() == 24) {
                return say(-5);
            }
            Act a = new Act();
            a.from = from;
            a.known = known;
            try {
                a.clauses = new Parser(text).all();
            } catch (Fault f) {
                fault = f.place;
                return say(-6);
            }
            fault = NONE;
            s.acts.add(a);
            return say(s.acts.size() - 1);
        }

        boolean inForce(int act, int clause, int week, int known) {
            Act a = s.acts.get(act);
            if (a.known > known || a.from > week) {
                return false;
            }
            for (int later = act + 1; later < s.acts.size(); later++) {
                List<Clause> cs = s.acts.get(later).clauses;
                for (int c = 0; c < cs.size(); c++) {
                    Clause k = cs.get(c);
                    if (k.key.equals("strike") && k.struckAct == act && k.struckClause == clause
                            && inForce(later, c, week, known)) {
                        return false;
                    }
                }
            }
            return true;
        }

        List<Long> holding(String key, long[] set, int week, int known) {
            List<Long> values = new ArrayList<>();
            for (int a = 0; a < s.acts.size(); a++) {
                List<Clause> cs = s.acts.get(a).clauses;
                for (int c = 0; c < cs.size(); c++) {
                    Clause k = cs.get(c);
                    if (!k.key.equals(key) || !inForce(a, c, week, known)) {
                        continue;
                    }
                    try {
                        if (k.test == null || eval(k.test, set) != 0) {
                            values.add(k.sum == null ? (long) k.value : eval(k.sum, set));
                        }
                    } catch (Broken b) {
                        continue;
                    }
                }
            }
            return values;
        }

        int last(String key, int rooms, int week, int known) {
            List<Long> v = holding(key, new long[] {rooms, 0, 0, 0, 0, 0, week}, week, known);
            return v.isEmpty() ? NONE : (int) Math.max(0, v.get(v.size() - 1));
        }

        int force(int act, int clause, int week, int known) {
            if (!in(act, 0, s.acts.size() - 1) || !weeks(week, known)
                    || !in(clause, 0, s.acts.get(act).clauses.size() - 1)) {
                return NONE;
            }
            return inForce(act, clause, week, known) ? 1 : 0;
        }

        int counts(int kind, int week, int known) {
            if (!in(kind, 0, 5) || !weeks(week, known)) {
                return NONE;
            }
            String[] keys = {"licence 0", "licence 1", "licence 2", "huts", "squat", "first"};
            return last(keys[kind], 0, week, known);
        }

        int need(int kind, int stage, int material, int rooms, int week, int known) {
            if (!in(kind, 0, 2) || !in(stage, 0, 2) || !in(material, 0, 5) || !in(rooms, 1, 6) || !weeks(week, known)) {
                return NONE;
            }
            String key = material == 5 ? "work " + kind + " " + stage : "need " + kind + " " + stage + " " + material;
            return Math.max(0, last(key, rooms, week, known));
        }

        int deliver(int material, int week, int amount, int known) {
            if (!in(material, 0, 4) || !weeks(week, known) || !in(amount, 1, 100_000)) {
                return say(-1);
            }
            if (s.deliveries.size() == 120) {
                return say(-5);
            }
            s.deliveries.add(new int[] {material, week, amount, known});
            return say(s.deliveries.size());
        }

        int works(int... w) {
            if (!in(w[0], 0, 4) || !in(w[1], 0, 1000) || !in(w[2], 0, 4) || !in(w[3], 0, 1000) || !in(w[4], 0, 4)
                    || !in(w[5], 1, 10_000) || !in(w[6], 0, 100) || !weeks(w[7])) {
                return say(-1);
            }
            if (s.works.size() == 8) {
                return say(-5);
            }
            s.works.add(w);
            return say(s.works.size() - 1);
        }

        int gangs(int council, int many, int from, int known) {
            if (!in(council, 0, 5) || !in(many, 0, 50) || !weeks(from, known)) {
                return say(-1);
            }
            if (s.gangs.size() == 60) {
                return say(-5);
            }
            s.gangs.add(new int[] {council, many, from, known});
            return say(s.gangs.size());
        }

        int plot(int council, int kind, int rooms, int cleared) {
            if (!in(council, 0, 5) || !in(kind, 0, 2) || !in(rooms, 1, 6) || !weeks(cleared)) {
                return say(-1);
            }
            if (s.plots.size() == 30) {
                return say(-5);
            }
            s.plots.add(new int[] {council, kind, rooms, cleared});
            return say(s.plots.size() - 1);
        }

        int start(int plot, int week, int known) {
            if (!weeks(week, known)) {
                return say(-1);
            }
            if (!plotIs(plot)) {
                return say(-2);
            }
            if (wishes.contains(plot)) {
                return say(-3);
            }
            if (s.starts.size() == 60) {
                return say(-5);
            }
            s.starts.add(new int[] {plot, week, known});
            return say(s.starts.size());
        }

        int gangsOf(int council, int week, int known) {
            int latest = -1;
            int many = 0;
            for (int[] g : s.gangs) {
                if (g[0] == council && g[3] <= known && g[2] <= week && g[2] >= latest) {
                    latest = g[2];
                    many = g[1];
                }
            }
            return many;
        }

        Outcome run(int known, int late, int[] extra) {
            int n = s.plots.size();
            Outcome o = new Outcome();
            o.start = new int[n];
            Arrays.fill(o.start, NONE);
            for (int[] st : s.starts) {
                if (st[2] <= known && o.start[st[0]] == NONE) {
                    o.start[st[0]] = st[1];
                }
            }
            for (int i = 0; extra != null && i < extra.length; i++) {
                if (extra[i] != NONE) {
                    o.start[wishes.get(i)] = extra[i];
                }
            }
            o.licensed = new boolean[n];
            for (int p = 0; p < n; p++) {
                o.licensed[p] = o.start[p] != NONE && licensed(p, o.start, known);
            }
            o.took = new int[n][3];
            o.over = new int[n][3];
            o.began = new int[n][3];
            for (int p = 0; p < n; p++) {
                Arrays.fill(o.took[p], NONE);
                Arrays.fill(o.over[p], NONE);
                Arrays.fill(o.began[p], NONE);
            }
            o.stock = new int[260][];
            int[] stock = new int[5];
            int[] stage = new int[n];
            long[] work = new long[n];
            for (int w = 0; w < 260; w++) {
                for (int[] d : s.deliveries) {
                    if (d[3] <= known && d[1] + (d[0] == 0 ? late : 0) == w) {
                        stock[d[0]] += d[2];
                    }
                }
                for (int[] k : s.works) {
                    int done = 0;
                    int one = stock[k[0]];
                    int other = stock[k[2]];
                    while (k[7] <= w && done < k[6]
                            && (k[0] == k[2] ? one >= (done + 1) * (k[1] + k[3])
                                    : one >= (done + 1) * k[1] && other >= (done + 1) * k[3])) {
                        done++;
                    }
                    stock[k[0]] -= done * k[1];
                    stock[k[2]] -= done * k[3];
                    stock[k[4]] += done * k[5];
                }
                int first = last("first", 0, w, known);
                List<Integer> line = new ArrayList<>();
                for (int p = 0; p < n; p++) {
                    if (o.start[p] != NONE && o.start[p] <= w && s.plots.get(p)[3] <= w && o.licensed[p]
                            && stage[p] < 3) {
                        line.add(p);
                    }
                }
                line.sort(Comparator.<Integer>comparingInt(p -> s.plots.get(p)[1] == first ? 0 : 1)
                        .thenComparingInt(p -> o.start[p]).thenComparingInt(p -> p));
                int[] left = new int[6];
                for (int c = 0; c < 6; c++) {
                    left[c] = gangsOf(c, w, known);
                }
                for (int p : line) {
                    int[] plot = s.plots.get(p);
                    boolean on = true;
                    while (on && stage[p] < 3) {
                        on = false;
                        int g = stage[p];
                        if (o.took[p][g] == NONE) {
                            o.began[p][g] = o.began[p][g] == NONE ? w : o.began[p][g];
                            boolean enough = true;
                            int[] needs = new int[5];
                            for (int m = 0; m < 5; m++) {
                                needs[m] = need(plot[1], g, m, plot[2], w, known);
                                enough &= stock[m] >= needs[m];
                            }
                            if (!enough) {
                                break;
                            }
                            for (int m = 0; m < 5; m++) {
                                stock[m] -= needs[m];
                            }
                            o.took[p][g] = w;
                            work[p] = need(plot[1], g, 5, plot[2], w, known);
                            if (work[p] == 0) {
                                o.over[p][g] = w;
                                stage[p]++;
                                on = true;
                                continue;
                            }
                        }
                        if (left[plot[0]] > 0) {
                            left[plot[0]]--;
                            work[p]--;
                            if (work[p] == 0) {
                                o.over[p][g] = w;
                                stage[p]++;
                            }
                        }
                    }
                }
                o.stock[w] = stock.clone();
            }
            return o;
        }

        boolean licensed(int p, int[] start, int known) {
            int[] me = s.plots.get(p);
            int quarter = start[p] / 13;
            int limit = last("licence " + me[1], 0, quarter * 13, known);
            int ahead = 0;
            for (int q = 0; q < s.plots.size(); q++) {
                int[] other = s.plots.get(q);
                if (q != p && other[0] == me[0] && other[1] == me[1] && start[q] != NONE && start[q] / 13 == quarter
                        && (start[q] < start[p] || start[q] == start[p] && q < p)) {
                    ahead++;
                }
            }
            return limit == NONE || ahead < limit;
        }

        int stock(int material, int week, int known, int late) {
            if (!in(material, 0, 4) || !weeks(week, known) || !in(late, 0, 26)) {
                return NONE;
            }
            return run(known, late, null).stock[week][material];
        }

        int built(int plot, int known, int late, int what) {
            if (!plotIs(plot) || !weeks(known) || !in(late, 0, 26) || !in(what, 0, 6)) {
                return NONE;
            }
            Outcome o = run(known, late, null);
            return what == 6 ? (o.licensed[plot] ? 1 : 0) : what < 3 ? o.over[plot][what] : o.took[plot][what - 3];
        }

        int lacks(int plot, int week, int known) {
            if (!plotIs(plot) || !weeks(week, known)) {
                return NONE;
            }
            Outcome o = run(known, 0, null);
            if (by(o.over[plot][2], week)) {
                return 0;
            }
            if (!by(o.start[plot], week)) {
                return 1;
            }
            if (!o.licensed[plot]) {
                return 2;
            }
            if (s.plots.get(plot)[3] > week) {
                return 3;
            }
            for (int g = 0; g < 3; g++) {
                if (by(o.began[plot][g], week) && !by(o.took[plot][g], week)) {
                    return 4;
                }
            }
            return 5;
        }

        static boolean by(int week, int then) {
            return week != NONE && week <= then;
        }

        int knock(int known, int late) {
            if (!weeks(known) || !in(late, 1, 26)) {
                return NOTHING;
            }
            Outcome a = run(known, 0, null);
            Outcome b = run(known, late, null);
            int sum = 0;
            for (int p = 0; p < s.plots.size(); p++) {
                if (a.over[p][2] != NONE) {
                    sum += (b.over[p][2] == NONE ? 260 : b.over[p][2]) - a.over[p][2];
                }
            }
            return sum;
        }

        int wish(int plot) {
            if (!plotIs(plot)) {
                return say(-2);
            }
            for (int[] st : s.starts) {
                if (st[0] == plot) {
                    return say(-3);
                }
            }
            if (wishes.contains(plot)) {
                return say(-4);
            }
            if (wishes.size() == 6) {
                return say(-5);
            }
            wishes.add(plot);
            return say(wishes.size());
        }

        int clear() {
            int n = wishes.size();
            wishes.clear();
            return n;
        }

        int[] play(int quarter, int[] row) {
            int w = quarter * 13;
            int[] extra = new int[row.length];
            for (int i = 0; i < row.length; i++) {
                extra[i] = row[i] == 0 ? NONE : w + (row[i] - 1) * 4;
            }
            Outcome o = run(w, 0, extra);
            int housed = 0;
            int shells = 0;
            for (int p : wishes) {
                if (by(o.over[p][2], w + 12)) {
                    housed += s.plots.get(p)[2];
                } else if (by(o.took[p][0], w + 12)) {
                    shells++;
                }
            }
            return new int[] {housed, shells};
        }

        int best(int quarter) {
            if (!in(quarter, 0, 19)) {
                return NONE;
            }
            int n = wishes.size();
            int[] top = null;
            int[] topRow = null;
            for (int r = 0; r < 1 << 2 * n; r++) {
                int[] row = new int[n];
                for (int i = 0; i < n; i++) {
                    row[i] = r >> 2 * (n - 1 - i) & 3;
                }
                int[] v = play(quarter, row);
                if (top == null || v[0] > top[0] || v[0] == top[0] && v[1] < top[1]) {
                    top = v;
                    topRow = row;
                }
            }
            best = topRow;
            bestShells = top[1];
            return top[0];
        }

        int chosen(int wish) {
            if (best == null || wish < -1 || wish >= best.length) {
                return NONE;
            }
            return wish == NONE ? bestShells : best[wish];
        }

        int bound(int quarter) {
            if (!in(quarter, 0, 19)) {
                return NONE;
            }
            int rooms = 0;
            for (int i = 0; i < wishes.size(); i++) {
                boolean some = false;
                for (int v = 1; v < 4; v++) {
                    int[] row = new int[wishes.size()];
                    row[i] = v;
                    some |= play(quarter, row)[0] > 0;
                }
                rooms += some ? s.plots.get(wishes.get(i))[2] : 0;
            }
            return rooms;
        }

        int judge(int quarter, int row) {
            if (!in(quarter, 0, 19) || row < 0 || row >= 1 << 2 * wishes.size()) {
                return NONE;
            }
            int[] values = new int[wishes.size()];
            for (int i = 0; i < values.length; i++) {
                values[i] = row >> 2 * i & 3;
            }
            int[] v = play(quarter, values);
            return v[0] * 10 + v[1];
        }

        int entry(int council, int week, int persons, int children, int have, int ill, int known) {
            if (!in(council, 0, 5) || !weeks(week, known) || !in(persons, 1, 20) || !in(children, 0, persons - 1)
                    || !in(have, 0, 9) || !in(ill, 0, 1)) {
                return say(-1);
            }
            if (s.entries.size() == 60) {
                return say(-5);
            }
            s.entries.add(new int[] {council, week, persons, children, have, ill, known, NONE, NONE, NONE});
            return say(s.entries.size() - 1);
        }

        int mark(int entry, int which, int mark) {
            if (!in(which, 0, 2) || !in(mark, 0, 9999)) {
                return say(-1);
            }
            if (!in(entry, 0, s.entries.size() - 1)) {
                return say(-2);
            }
            if (s.entries.get(entry)[7 + which] != NONE) {
                return say(-4);
            }
            s.entries.get(entry)[7 + which] = mark;
            return say(0);
        }

        boolean knownEntry(int entry, int known) {
            return in(entry, 0, s.entries.size() - 1) && s.entries.get(entry)[6] <= known;
        }

        /** By spreading from one ENTRY over all that are alike. */
        int familyOf(int entry, int known) {
            boolean[] seen = new boolean[s.entries.size()];
            List<Integer> open = new ArrayList<>(List.of(entry));
            seen[entry] = true;
            int lowest = entry;
            while (!open.isEmpty()) {
                int e = open.remove(open.size() - 1);
                lowest = Math.min(lowest, e);
                for (int f = 0; f < seen.length; f++) {
                    int same = 0;
                    boolean differs = false;
                    for (int m = 7; m < 10; m++) {
                        int a = s.entries.get(e)[m];
                        int b = s.entries.get(f)[m];
                        if (a != NONE && b != NONE) {
                            same += a == b ? 1 : 0;
                            differs |= a != b;
                        }
                    }
                    if (!seen[f] && s.entries.get(f)[6] <= known && same >= 2 && !differs) {
                        seen[f] = true;
                        open.add(f);
                    }
                }
            }
            return lowest;
        }

        int family(int entry, int known) {
            return !weeks(known) || !knownEntry(entry, known) ? NONE : familyOf(entry, known);
        }

        long weight(int entry, int week, int known) {
            int[] e = s.entries.get(entry);
            long[] set = {0, e[2], e[3], e[5], Math.max(0, week - e[1]), e[4], week};
            return holding("points", set, week, known).stream().mapToLong(v -> v).sum();
        }

        int points(int entry, int week, int known) {
            if (!weeks(week, known) || !knownEntry(entry, known)) {
                return NOTHING;
            }
            return (int) Math.max(-1_000_000_000L, Math.min(1_000_000_000L, weight(entry, week, known)));
        }

        List<Integer> ordered(int council, int week, int known) {
            List<Integer> list = new ArrayList<>();
            for (int e = 0; e < s.entries.size(); e++) {
                int[] r = s.entries.get(e);
                if (r[0] == council && r[1] <= week && r[6] <= known) {
                    list.add(e);
                }
            }
            list.sort(Comparator.<Integer>comparingLong(e -> -weight(e, week, known))
                    .thenComparingInt(e -> s.entries.get(e)[1]).thenComparingInt(e -> e));
            return list;
        }

        int order(int council, int week, int known, int i) {
            if (!in(council, 0, 5) || !weeks(week, known)) {
                return NONE;
            }
            List<Integer> list = ordered(council, week, known);
            return i == -1 ? list.size() : in(i, 0, list.size() - 1) ? list.get(i) : NONE;
        }

        int beside(int council, int week, int one, int other) {
            if (!in(council, 0, 5) || !weeks(week, one, other)) {
                return NONE;
            }
            List<Integer> a = ordered(council, week, one);
            List<Integer> b = ordered(council, week, other);
            int pairs = 0;
            for (int x : a) {
                for (int y : a) {
                    if (x < y && b.contains(x) && b.contains(y)
                            && (a.indexOf(x) < a.indexOf(y)) != (b.indexOf(x) < b.indexOf(y))) {
                        pairs++;
                    }
                }
            }
            return pairs;
        }

        int homeEnd(Outcome o, int plot, int known) {
            if (s.plots.get(plot)[1] != 2) {
                return NEVER;
            }
            int huts = last("huts", 0, o.over[plot][2], known);
            return huts == NONE ? NEVER : o.over[plot][2] + huts;
        }

        boolean isHome(Outcome o, int plot, int week, int known) {
            return by(o.over[plot][2], week) && week < homeEnd(o, plot, known);
        }

        Stay inside(int plot, int week) {
            Stay found = null;
            for (Stay stay : s.stays) {
                if (stay.plot == plot && stay.here(week)) {
                    found = stay;
                }
            }
            return found;
        }

        Stay ofFamily(int family, int week, boolean living) {
            for (int p = 0; p < s.plots.size(); p++) {
                Stay stay = inside(p, week);
                if (stay != null && stay.living(week) == living && familyOf(stay.entry, week) == family) {
                    return stay;
                }
            }
            return null;
        }

        void goIn(Outcome o, int entry, int plot, int week, int lives, int chain) {
            Stay stay = new Stay();
            stay.plot = plot;
            stay.entry = entry;
            stay.from = week;
            stay.lives = lives;
            stay.end = homeEnd(o, plot, week);
            stay.chain = chain;
            s.stays.add(stay);
        }

        int offer(int week) {
            if (!weeks(week) || week < s.lastWeek) {
                return say(-1);
            }
            if (s.offers == 100) {
                return say(-5);
            }
            Outcome o = run(week, 0, null);
            int moves = 0;
            for (int p = 0; p < s.plots.size(); p++) {
                int now = p;
                for (int chain = 0; chain < 10 && now != NONE; chain++) {
                    int to = now;
                    now = NONE;
                    if (!isHome(o, to, week, week) || inside(to, week) != null) {
                        break;
                    }
                    for (int e : ordered(s.plots.get(to)[0], week, week)) {
                        int family = familyOf(e, week);
                        Stay lives = ofFamily(family, week, true);
                        Stay squats = ofFamily(family, week, false);
                        int rooms = s.plots.get(to)[2];
                        if ((lives == null || s.plots.get(lives.plot)[2] < rooms)
                                && s.entries.get(e)[2] <= 2 * rooms) {
                            if (lives != null) {
                                lives.left = week;
                            }
                            if (squats != null) {
                                squats.left = week;
                            }
                            goIn(o, e, to, week, week, chain);
                            moves++;
                            now = lives != null ? lives.plot : squats != null ? squats.plot : NONE;
                            break;
                        }
                    }
                }
            }
            s.offers++;
            s.moves += moves;
            s.lastWeek = week;
            return say(moves);
        }

        int lives(int plot, int week, int what) {
            if (!plotIs(plot) || !weeks(week) || !in(what, 0, 2)) {
                return NONE;
            }
            Stay stay = inside(plot, week);
            if (stay == null || !stay.living(week)) {
                return NONE;
            }
            return what == 0 ? stay.entry : what == 1 ? stay.from : stay.chain;
        }

        int roof(int entry, int week) {
            if (!weeks(week) || !knownEntry(entry, week)) {
                return NONE;
            }
            Stay stay = ofFamily(familyOf(entry, week), week, true);
            return stay == null ? NONE : stay.plot;
        }

        int squat(int entry, int plot, int week) {
            if (!weeks(week) || week < s.lastWeek) {
                return say(-1);
            }
            if (!plotIs(plot) || !knownEntry(entry, week)) {
                return say(-2);
            }
            Outcome o = run(week, 0, null);
            int family = familyOf(entry, week);
            if (!isHome(o, plot, week, week) || inside(plot, week) != null || ofFamily(family, week, true) != null
                    || ofFamily(family, week, false) != null) {
                return say(-3);
            }
            if (s.squats == 40) {
                return say(-5);
            }
            int waits = last("squat", 0, week, week);
            goIn(o, entry, plot, week, waits == NONE ? NEVER : week + waits, 0);
            s.squats++;
            s.lastWeek = week;
            return say(s.squats);
        }

        int out(int plot, int week) {
            if (!weeks(week) || week < s.lastWeek) {
                return say(-1);
            }
            if (!plotIs(plot)) {
                return say(-2);
            }
            Stay stay = inside(plot, week);
            if (stay == null || stay.living(week)) {
                return say(-3);
            }
            stay.left = week;
            s.lastWeek = week;
            return say(0);
        }

        int rent(int plot, int week, int known) {
            if (!plotIs(plot) || !weeks(week, known) || !isHome(run(known, 0, null), plot, week, known)) {
                return NONE;
            }
            Stay stay = inside(plot, week);
            long[] set = {s.plots.get(plot)[2], 0, 0, 0, 0, 0, week};
            if (stay != null && stay.living(week)) {
                int[] e = s.entries.get(stay.entry);
                set = new long[] {set[0], e[2], e[3], e[5], 0, e[4], week};
            }
            long sum = holding("rent", set, week, known).stream().mapToLong(v -> v).sum();
            return (int) Math.max(0, Math.min(1_000_000_000L, sum));
        }

        int lodge(int plot, int persons, int from, int to) {
            if (!in(persons, 1, 20) || !weeks(from, to) || from > to) {
                return say(-1);
            }
            if (!plotIs(plot)) {
                return say(-2);
            }
            if (s.lodgers.size() == 40) {
                return say(-5);
            }
            s.lodgers.add(new int[] {plot, persons, from, to});
            return say(s.lodgers.size());
        }

        int under(int plot, int week) {
            if (!plotIs(plot) || !weeks(week)) {
                return NONE;
            }
            int e = lives(plot, week, 0);
            int sum = e == NONE ? 0 : s.entries.get(e)[2];
            for (int[] l : s.lodgers) {
                sum += l[0] == plot && in(week, l[2], l[3]) ? l[1] : 0;
            }
            return sum;
        }

        int target(int council, int quarter, int homes) {
            if (!in(council, 0, 5) || !in(quarter, 0, 19) || !in(homes, 0, 10_000)) {
                return say(-1);
            }
            s.targets[council][quarter] = homes;
            return say(0);
        }

        int street(Integer[][][] rows, int council, int quarter, int street, int homes) {
            if (!in(council, 0, 5) || !in(quarter, 0, 19) || !in(street, 0, 19) || !in(homes, 0, 1000)) {
                return say(-1);
            }
            rows[council][quarter][street] = homes;
            return say(0);
        }

        int truth(int council, int quarter, int what) {
            if (!in(council, 0, 5) || !in(quarter, 0, 19) || !in(what, 0, 4)) {
                return NONE;
            }
            int least = 0;
            int most = 0;
            int claimed = 0;
            for (int i = 0; i < 20; i++) {
                Integer l = s.looks[council][quarter][i];
                Integer c = s.claims[council][quarter][i];
                claimed += c == null ? 0 : c;
                least += l == null ? 0 : l;
                most += l != null ? l : c == null ? 0 : c;
            }
            Integer t = s.targets[council][quarter];
            int[] all = {least, most, claimed, t != null && least >= t ? 1 : 0, most < claimed ? 1 : 0};
            return all[what];
        }

        int image(int k) {
            if (!in(k, 0, 2)) {
                return say(-1);
            }
            images[k] = s.copy();
            return say(0);
        }

        int back(int k) {
            if (!in(k, 0, 2)) {
                return say(-1);
            }
            if (images[k] == null) {
                return say(-2);
            }
            s = images[k].copy();
            tape.setLength(0);
            wishes.clear();
            return say(0);
        }

        int count(int what) {
            int[] all = {s.acts.size(), s.deliveries.size(), s.works.size(), s.plots.size(), s.starts.size(),
                wishes.size(), s.entries.size(), s.moves, s.squats, tape.length()};
            return in(what, 0, 9) ? all[what] : NONE;
        }
    }

    // ------------------------------------------------------------ random runs

    private static final Random random = new Random();
    private static int wrong;
    private static long calls;
    // Calls of the object at hand, each with its status; the document promises nothing behind the 512th.
    private static int used;
    private static final int ENOUGH = 380;
    private static WarHouses x;
    private static Plain y;
    private static int seed;

    private static void same(String call, int got, int due) {
        calls++;
        used += 2;
        if (got != due && wrong++ < 20) {
            System.out.println("seed " + seed + ": " + call + " answered " + got + ", due is " + due);
        }
        if (x.status() != y.status && wrong++ < 20) {
            System.out.println("seed " + seed + ": status behind " + call + " is " + x.status() + ", due " + y.status);
        }
    }

    private static int upTo(int n) {
        return random.nextInt(n + 1);
    }

    private static String pick(String... words) {
        return words[random.nextInt(words.length)];
    }

    /** Now and then a number at or beyond an edge. */
    private static int edge(int usual, int least, int most) {
        int r = upTo(rare);
        return r == 0 ? least - 1 : r == 1 ? most + 1 : r == 2 ? most : r == 3 ? least : usual;
    }

    private static int span;
    private static int rare = 60;

    private static int week() {
        return edge(upTo(span), 0, 259);
    }

    private static int known() {
        return edge(upTo(3) == 0 ? upTo(span) : upTo(3), 0, 259);
    }

    private static String sumText(int depth) {
        int r = upTo(depth > 3 ? 2 : 11);
        String b = pick("", " ");
        switch (r) {
            case 0:
            case 1:
                return String.valueOf(upTo(9) == 0 ? upTo(10_000) : upTo(6));
            case 2:
                return pick(SETTINGS);
            case 3:
                return "[" + b + sumText(depth + 1) + b + "]";
            case 4:
                return pick("least", "most") + b + "[" + sumText(depth + 1) + b + "," + sumText(depth + 1) + "]";
            case 5:
            case 6:
                return sumText(depth + 1) + b + pick("+", "-") + b + sumText(depth + 1);
            case 7:
                return sumText(depth + 1) + b + pick("*", "/") + b + sumText(depth + 1);
            default:
                return String.valueOf(upTo(5));
        }
    }

    private static String testText(int depth) {
        int r = upTo(depth > 3 ? 3 : 7);
        switch (r) {
            case 4:
                return "not " + testText(depth + 1);
            case 5:
                return "(" + testText(depth + 1) + ")";
            case 6:
                return testText(depth + 1) + " or " + testText(depth + 1);
            case 7:
                return testText(depth + 1) + " and " + testText(depth + 1);
            default:
                return sumText(2) + pick("<", ">", "=", " < ", " > ", " = ") + sumText(2);
        }
    }

    private static String clauseText() {
        String kind = pick("brick", "steel", "hut");
        String test = upTo(3) == 0 ? " if " + testText(1) : "";
        switch (upTo(11)) {
            case 0:
            case 1:
            case 2:
                return "need " + kind + " " + pick("base", "shell", "fit") + " "
                    + pick("bricks", "timber", "steel", "coal", "kits") + " " + sumText(1) + test;
            case 3:
            case 4:
                return "work " + kind + " " + pick("base", "shell", "fit") + " " + pick("0", "1", "2", "3", sumText(1)) + test;
            case 5:
                return "points " + sumText(0) + test;
            case 6:
                return "licence " + kind + " " + pick("0", "1", "2", sumText(2)) + test;
            case 7:
                return "rent " + sumText(0) + test;
            case 8:
                return "huts " + pick("1", "3", "8", "20", sumText(0)) + test;
            case 9:
                return "squat " + pick("0", "2", "4", sumText(0)) + test;
            case 10:
                return "first " + kind + test;
            default:
                return "strike " + upTo(upTo(9) == 0 ? 25 : 4) + " clause " + upTo(upTo(9) == 0 ? 17 : 4);
        }
    }

    private static String actText() {
        StringBuilder t = new StringBuilder();
        int clauses = upTo(30) == 0 ? 16 + upTo(1) : 1 + upTo(7);
        for (int i = 0; i < clauses; i++) {
            t.append(i == 0 ? pick("", " ") : pick(";", " ; ")).append(clauseText());
        }
        int spoil = upTo(5);
        if (spoil == 0 && t.length() > 1) {
            int at = upTo(t.length() - 1);
            switch (upTo(3)) {
                case 0:
                    t.deleteCharAt(at);
                    break;
                case 1:
                    t.insert(at, pick("(", ")", "[", "]", ",", ";", " ", "not ", " or ", "A", "10001 ", "least", "\u00e9", "0"));
                    break;
                case 2:
                    t.setLength(at);
                    break;
                default:
                    t.append(pick("+", " and 1=1", ";", "  ", " if", " if 1", "]", " 7"));
                    break;
            }
        }
        if (t.length() > 400) {
            t.setLength(400);
        }
        return t.toString();
    }

    private static void tellAct(String text) {
        int n = text.length();
        StringBuilder t = new StringBuilder(text);
        while (t.length() % 20 != 0) {
            t.append(' ');
        }
        for (int i = 0; i < t.length(); i += 20) {
            int[] v = new int[5];
            for (int j = 0; j < 20; j++) {
                v[j / 4] = v[j / 4] << 8 | t.charAt(i + j);
            }
            same("feed", x.feed(v[0], v[1], v[2], v[3], v[4]), y.feed(v));
        }
        same("end " + n, x.end(n), y.end(n));
        int from = upTo(2) == 0 ? week() : 0;
        int known = known();
        same("act(" + from + "," + known + ") of '" + text + "'", x.act(from, known), y.act(from, known));
        same("fault of '" + text + "'", x.fault(), y.fault);
        same("bytes behind act", x.count(9), y.tape.length());
    }

    private static void tell() {
        int c = edge(upTo(2), 0, 5);
        int p = edge(upTo(Math.max(0, y.s.plots.size() - 1)), 0, 29);
        int e = edge(upTo(Math.max(0, y.s.entries.size() - 1)), 0, 59);
        int w = week();
        int k = known();
        int m = edge(upTo(4), 0, 4);
        switch (upTo(13)) {
            case 0:
                tellAct(actText());
                break;
            case 1:
            case 2: {
                int n = edge(1 + upTo(40), 1, 100_000);
                same("deliver", x.deliver(m, w, n, k), y.deliver(m, w, n, k));
                break;
            }
            case 3: {
                int one = edge(upTo(4), 0, 4);
                int other = edge(upTo(4), 0, 4);
                int t1 = edge(upTo(3), 0, 1000);
                int t2 = edge(upTo(3), 0, 1000);
                int many = edge(1 + upTo(5), 1, 10_000);
                int b = edge(upTo(4), 0, 100);
                same("works", x.works(one, t1, other, t2, m, many, b, w), y.works(one, t1, other, t2, m, many, b, w));
                break;
            }
            case 4: {
                int n = edge(upTo(4), 0, 50);
                same("gangs", x.gangs(c, n, w, k), y.gangs(c, n, w, k));
                break;
            }
            case 5:
            case 6: {
                int kind = edge(upTo(2), 0, 2);
                int rooms = edge(1 + upTo(5), 1, 6);
                int cleared = upTo(2) == 0 ? w : 0;
                same("plot", x.plot(c, kind, rooms, cleared), y.plot(c, kind, rooms, cleared));
                break;
            }
            case 7:
            case 8:
                same("start " + p, x.start(p, w, k), y.start(p, w, k));
                break;
            case 9:
            case 10: {
                int persons = edge(1 + upTo(9), 1, 20);
                int children = edge(upTo(Math.max(0, persons - 1)), 0, persons - 1);
                int have = edge(upTo(3), 0, 9);
                int ill = edge(upTo(1), 0, 1);
                same("entry", x.entry(c, w, persons, children, have, ill, k),
                    y.entry(c, w, persons, children, have, ill, k));
                break;
            }
            case 11:
            case 12: {
                int which = edge(upTo(2), 0, 2);
                int mark = edge(upTo(2), 0, 9999);
                same("mark", x.mark(e, which, mark), y.mark(e, which, mark));
                break;
            }
            default:
                if (upTo(1) == 0) {
                    int to = edge(w + upTo(5), 0, 259);
                    int n = edge(1 + upTo(4), 1, 20);
                    same("lodge", x.lodge(p, n, w, to), y.lodge(p, n, w, to));
                } else {
                    streets();
                }
                break;
        }
    }

    private static void streets() {
        int c = edge(upTo(2), 0, 5);
        int q = edge(upTo(2), 0, 19);
        int street = edge(upTo(5), 0, 19);
        int n = edge(upTo(9), 0, 1000);
        int t = edge(upTo(20), 0, 10_000);
        same("target", x.target(c, q, t), y.target(c, q, t));
        same("claim", x.claim(c, q, street, n), y.street(y.s.claims, c, q, street, n));
        street = edge(upTo(5), 0, 19);
        n = edge(upTo(9), 0, 1000);
        same("look", x.look(c, q, street, n), y.street(y.s.looks, c, q, street, n));
        for (int what = -1; what < 6; what++) {
            same("truth", x.truth(c, q, what), y.truth(c, q, what));
        }
    }

    private static void ask() {
        int p = edge(upTo(Math.max(0, y.s.plots.size() - 1)), 0, 29);
        int e = edge(upTo(Math.max(0, y.s.entries.size() - 1)), 0, 59);
        int c = edge(upTo(2), 0, 5);
        int w = week();
        int k = week();
        int late = edge(upTo(6), 0, 26);
        int m = edge(upTo(4), 0, 4);
        switch (upTo(13)) {
            case 0: {
                int a = edge(upTo(4), 0, 23);
                int cl = edge(upTo(4), 0, 15);
                same("force", x.force(a, cl, w, k), y.force(a, cl, w, k));
                break;
            }
            case 1:
                for (int i = -1; i < 7; i++) {
                    same("counts", x.counts(i, w, k), y.counts(i, w, k));
                }
                break;
            case 2:
                for (int i = -1; i < 7; i++) {
                    int kind = edge(upTo(2), 0, 2);
                    int stage = edge(upTo(2), 0, 2);
                    int rooms = edge(1 + upTo(5), 1, 6);
                    same("need", x.need(kind, stage, i, rooms, w, k), y.need(kind, stage, i, rooms, w, k));
                }
                break;
            case 3:
                same("stock", x.stock(m, w, k, late), y.stock(m, w, k, late));
                break;
            case 4: {
                int what = edge(upTo(6), 0, 6);
                same("built " + p + " " + what, x.built(p, k, late, what), y.built(p, k, late, what));
                break;
            }
            case 5:
                same("lacks " + p + " " + w, x.lacks(p, w, k), y.lacks(p, w, k));
                break;
            case 6:
                same("knock", x.knock(k, late), y.knock(k, late));
                break;
            case 7:
                for (int each = -1; each <= y.s.entries.size(); each++) {
                    same("family " + each, x.family(each, k), y.family(each, k));
                }
                same("points", x.points(e, w, k), y.points(e, w, k));
                break;
            case 8:
                for (int i = -2; i < 5; i++) {
                    same("order " + i, x.order(c, w, k, i), y.order(c, w, k, i));
                }
                break;
            case 9: {
                int other = week();
                same("beside", x.beside(c, w, k, other), y.beside(c, w, k, other));
                break;
            }
            case 10:
                for (int what = -1; what < 4; what++) {
                    same("lives " + p + " " + w + " " + what, x.lives(p, w, what), y.lives(p, w, what));
                }
                break;
            case 11:
                same("roof", x.roof(e, w), y.roof(e, w));
                break;
            case 12:
                same("rent", x.rent(p, w, k), y.rent(p, w, k));
                same("under", x.under(p, w), y.under(p, w));
                break;
            default:
                for (int what = -1; what < 11; what++) {
                    same("count " + what, x.count(what), y.count(what));
                }
                break;
        }
    }

    private static void move() {
        int p = edge(upTo(Math.max(0, y.s.plots.size() - 1)), 0, 29);
        int e = edge(upTo(Math.max(0, y.s.entries.size() - 1)), 0, 59);
        int w = edge(y.s.lastWeek + upTo(3), 0, 259);
        int r = upTo(5);
        if (r <= 1) {
            same("offer " + w, x.offer(w), y.offer(w));
        } else if (r <= 3) {
            same("squat " + e + " " + p + " " + w, x.squat(e, p, w), y.squat(e, p, w));
        } else {
            same("out " + p + " " + w, x.out(p, w), y.out(p, w));
        }
    }

    private static void choose(int mostWishes) {
        int q = edge(upTo(2), 0, 19);
        for (int i = 0; i < mostWishes; i++) {
            int p = edge(upTo(Math.max(0, y.s.plots.size() - 1)), 0, 29);
            same("wish " + p, x.wish(p), y.wish(p));
        }
        if (y.wishes.size() <= mostWishes) {
            same("best " + q, x.best(q), y.best(q));
        }
        for (int i = -2; i <= 6; i++) {
            same("chosen " + i, x.chosen(i), y.chosen(i));
        }
        same("bound", x.bound(q), y.bound(q));
        int row = edge(upTo((1 << 2 * y.wishes.size()) - 1), 0, (1 << 2 * y.wishes.size()) - 1);
        same("judge " + row, x.judge(q, row), y.judge(q, row));
        if (upTo(1) == 0) {
            same("clear", x.clear(), y.clear());
        }
    }

    private static void keep() {
        int k = edge(upTo(2), 0, 2);
        if (upTo(1) == 0) {
            same("image", x.image(k), y.image(k));
        } else {
            same("back", x.back(k), y.back(k));
        }
    }

    private static int small() {
        return upTo(2) == 0 ? upTo(span) : 0;
    }

    private static void tellLaw(String text) {
        int n = text.length();
        StringBuilder t = new StringBuilder(text);
        while (t.length() % 20 != 0) {
            t.append(' ');
        }
        for (int i = 0; i < t.length(); i += 20) {
            int[] v = new int[5];
            for (int j = 0; j < 20; j++) {
                v[j / 4] = v[j / 4] << 8 | t.charAt(i + j);
            }
            same("feed", x.feed(v[0], v[1], v[2], v[3], v[4]), y.feed(v));
        }
        same("end " + n, x.end(n), y.end(n));
        int from = small();
        int known = small();
        same("act " + text, x.act(from, known), y.act(from, known));
    }

    private static String needLaws(String kind) {
        StringBuilder t = new StringBuilder();
        for (String stage : new String[] {"base", "shell", "fit"}) {
            t.append("need ").append(kind).append(' ').append(stage).append(' ')
                .append(pick("bricks", "timber", "steel", "coal", "kits")).append(' ')
                .append(pick("3", "rooms", "rooms * 2 - 1", "8 - least[week, 6]", "0")).append(';');
            t.append("work ").append(kind).append(' ').append(stage).append(' ')
                .append(pick("0", "0", "1", "2", "3", "rooms - 1")).append(';');
        }
        return t.append(pick("licence " + kind + " " + (1 + upTo(2)), "first " + kind, "first " + kind + " if week > 9"))
            .toString();
    }

    /** A town in which much is built and many move, so that the later calls have something to tell of. */
    private static void town() {
        int councils = 1 + upTo(2);
        int built = upTo(2);
        for (int i = 0; i < built; i++) {
            tellLaw(needLaws(pick("brick", "steel", "hut")));
        }
        tellLaw("points " + pick("persons * 2 + waited", "children - have", "[week - 5] * persons", "ill * 9 + waited / 2")
            + ";huts " + pick("2", "6", "15", "week + 3") + ";squat " + pick("0", "2", "5") + ";rent rooms * 3 - persons");
        if (upTo(1) == 0) {
            tellLaw("points " + pick("20 if ill = 1", "0 - persons * 3", "9 if waited > 6 or have = 0", "children * 5")
                + ";" + pick("huts 4", "huts 30 if week > 3", "strike 0 clause 1", "squat 1", "strike 1 clause 0"));
        }
        for (int i = 0; i < 5 + upTo(15); i++) {
            int m = upTo(4);
            int w = upTo(span);
            int n = 1 + upTo(30);
            int k = small();
            same("deliver", x.deliver(m, w, n, k), y.deliver(m, w, n, k));
        }
        for (int c = 0; c < councils; c++) {
            int many = 1 + upTo(2);
            int k = small();
            same("gangs", x.gangs(c, many, 0, k), y.gangs(c, many, 0, k));
        }
        int plots = 4 + upTo(9);
        for (int p = 0; p < plots; p++) {
            int c = upTo(councils - 1);
            int kind = upTo(2);
            int rooms = 1 + upTo(5);
            int cleared = small() / 2;
            same("plot", x.plot(c, kind, rooms, cleared), y.plot(c, kind, rooms, cleared));
            int w = upTo(span) / 2;
            int k = small() / 2;
            if (upTo(4) > 0) {
                same("start", x.start(p, w, k), y.start(p, w, k));
            }
        }
        int entries = 4 + upTo(12);
        for (int e = 0; e < entries; e++) {
            int c = upTo(councils - 1);
            int w = small() / 2;
            int persons = 1 + upTo(6);
            int children = upTo(persons - 1);
            int have = upTo(4);
            int ill = upTo(1);
            int k = small() / 2;
            same("entry", x.entry(c, w, persons, children, have, ill, k), y.entry(c, w, persons, children, have, ill, k));
        }
        int kin = upTo(2);
        for (int e = 0; kin > 0 && e < entries; e++) {
            int mark = upTo(kin * 3);
            for (int which = upTo(1); which < 2 + upTo(1); which++) {
                same("mark", x.mark(e, which, mark), y.mark(e, which, mark));
            }
        }
    }

    /** A QUARTER in which it matters what is begun when: scarce materials, needs that change, few gangs and licences. */
    private static void quarter() {
        for (String kind : new String[] {"brick", "hut"}) {
            tellLaw("need " + kind + " base " + pick("bricks", "kits") + " "
                + pick("9 - least[week, 9]", "rooms", "5 if week < 7", "week / 2", "most[10 - week, rooms]",
                    "11 - week - week", "12 - least[week, 22]")
                + ";work " + kind + " base " + pick("0", "1", "2", "rooms", "4 - least[week / 3, 4]")
                + ";need " + kind + " shell " + pick("bricks", "timber") + " " + pick("3", "rooms * 2", "week", "0")
                + ";work " + kind + " fit " + pick("0", "1", "2", "week / 2")
                + ";licence " + kind + " " + pick("1", "2", "3", "9"));
        }
        if (upTo(1) == 0) {
            tellLaw("first " + pick("brick", "hut", "hut if week > 5", "brick if week / 2 * 2 = week"));
        }
        for (int i = 0; i < 4 + upTo(8); i++) {
            int m = pick("0", "4", "1").charAt(0) - '0';
            int w = upTo(24);
            int n = 1 + upTo(12);
            same("deliver", x.deliver(m, w, n, 0), y.deliver(m, w, n, 0));
        }
        for (int m = 0; m < 5; m += 4) {
            int n = 8 + upTo(10);
            same("deliver", x.deliver(m, 0, n, 0), y.deliver(m, 0, n, 0));
        }
        if (upTo(1) == 0) {
            same("works", x.works(0, 1, 1, 1, 4, 3, 2, 2), y.works(0, 1, 1, 1, 4, 3, 2, 2));
        }
        int councils = 1 + upTo(1);
        for (int c = 0; c < councils; c++) {
            int many = 1 + upTo(1);
            same("gangs", x.gangs(c, many, 0, 0), y.gangs(c, many, 0, 0));
        }
        int wishes = upTo(7) == 0 ? 5 : 2 + upTo(2);
        for (int p = 0; p < wishes + 2; p++) {
            int c = upTo(councils - 1);
            int kind = upTo(1) * 2;
            int rooms = 1 + upTo(3);
            int cleared = upTo(2) * 2;
            same("plot", x.plot(c, kind, rooms, cleared), y.plot(c, kind, rooms, cleared));
        }
        for (int p = 0; p < 2; p++) {
            int w = upTo(20);
            int k = upTo(14);
            same("start", x.start(p * 2, w, k), y.start(p * 2, w, k));
        }
        for (int p = wishes + 1; p >= 0; p--) {
            same("wish", x.wish(p), y.wish(p));
        }
        for (int q = 0; q < 2; q++) {
            same("best " + q, x.best(q), y.best(q));
            for (int i = -1; i <= 6; i++) {
                same("chosen " + i, x.chosen(i), y.chosen(i));
            }
            same("bound " + q, x.bound(q), y.bound(q));
            for (int i = 0; i < 10; i++) {
                int row = upTo((1 << 2 * y.wishes.size()) - 1);
                same("judge " + row, x.judge(q, row), y.judge(q, row));
            }
        }
    }

    private static void oneRun(int number) {
        seed = number;
        random.setSeed(number);
        x = new WarHouses();
        y = new Plain();
        used = 0;
        span = new int[] {8, 20, 45, 259}[upTo(3)];
        if (number % 5 == 0) {
            quarter();
            return;
        }
        int steps = 40 + upTo(80);
        int moving = upTo(3);
        boolean town = upTo(2) > 0;
        rare = town ? 300 : 60;
        if (town) {
            town();
        }
        for (int i = 0; i < steps && used < ENOUGH; i++) {
            int r = upTo(99);
            if (!town && i < 20 || r < (town ? 15 : 45)) {
                tell();
            } else if (r < 55 + 10 * moving) {
                move();
            } else if (r < 96) {
                ask();
            } else if (r < 98) {
                keep();
            } else if (upTo(1) == 0) {
                choose(upTo(9) == 0 ? 3 : 2);
            }
        }
    }

    public static void main(String[] args) {
        int first = args.length > 0 ? Integer.parseInt(args[0]) : 1;
        int runs = args.length > 1 ? Integer.parseInt(args[1]) : 500;
        for (int i = first; i < first + runs && wrong < 20; i++) {
            oneRun(i);
        }
        System.out.println(wrong == 0 ? "plain model: " + calls + " answers are as due" : wrong + " answers are not as due");
        if (wrong != 0) {
            System.exit(1);
        }
    }
}

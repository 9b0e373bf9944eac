import java.nio.file.Files;
import java.nio.file.Path;
import java.util.ArrayList;
import java.util.HashMap;
import java.util.HashSet;
import java.util.List;
import java.util.Map;
import java.util.Set;
import java.util.TreeMap;
import java.util.regex.Matcher;
import java.util.regex.Pattern;

/**
 * Who calls whom in the file, as far as its text tells: rule 8 (what calls itself, by itself or by others, is private) and
 * rule 11 (calls that are no recursion go at most eight deep; methods that call one another are one step here).
 */
public final class CallsTest {
    private static final int MOST_DEEP = 8;
    private static final String FILE = "src/main/java/WarHouses.java";
    private static final Pattern CLASS = Pattern.compile(" {4}(?:private )?static (?:final )?class (\\w+) \\{");
    private static final Pattern METHOD = Pattern.compile("((?:(?:public|private|static|final) )*)(?:[\\w\\[\\]]+ )?(\\w+)\\(.*");
    private static final Pattern CALL = Pattern.compile("(new |\\.)?\\b(\\w+)\\(");

    /** A method, by its class and name; methods of one name in one class are one here. */
    private static final class Node {
        final String owner;
        final String name;
        boolean isPrivate = true;
        final StringBuilder body = new StringBuilder();
        final Set<Node> calls = new HashSet<>();
        final Set<Node> reached = new HashSet<>();

        Node(String owner, String name) {
            this.owner = owner;
            this.name = name;
        }

        String told() {
            return owner + "." + name;
        }
    }

    private static final Map<String, Node> nodes = new TreeMap<>();
    private static final Map<String, List<Node>> byName = new HashMap<>();
    private static int wrong;

    private static void check(boolean good, String what) {
        if (!good) {
            wrong++;
            System.out.println("calls: " + what);
        }
    }

    private static Node node(String owner, String name) {
        return nodes.computeIfAbsent(owner + "." + name, key -> {
            Node made = new Node(owner, name);
            byName.computeIfAbsent(name, n -> new ArrayList<>()).add(made);
            return made;
        });
    }

    private static void readFile() throws Exception {
        String text = Files.readString(Path.of(FILE)).replaceAll("(?s)/\\*.*?\\*/", " ").replaceAll("//[^\n]*", " ")
            .replaceAll("\"[^\"]*\"", "\"\"");
        String outer = "WarHouses";
        String owner = outer;
        Node open = null;
        for (String line : text.split("\n")) {
            String indent = owner.equals(outer) ? "    " : "        ";
            Matcher c = CLASS.matcher(line);
            Matcher m = METHOD.matcher(line.startsWith(indent) ? line.substring(indent.length()) : "");
            if (open == null && c.matches()) {
                owner = c.group(1);
            } else if (open == null && line.equals("    }")) {
                owner = outer;
            } else if (open == null && m.matches() && !line.contains("=")) {
                open = node(owner, m.group(2));
                open.isPrivate &= m.group(1).contains("private");
            } else if (open != null && line.equals(indent + "}")) {
                open = null;
            } else if (open != null) {
                open.body.append(line).append('\n');
            }
        }
    }

    private static void findCalls() {
        for (Node n : nodes.values()) {
            Matcher m = CALL.matcher(n.body);
            while (m.find()) {
                String sign = m.group(1) == null ? "" : m.group(1);
                for (Node other : byName.getOrDefault(m.group(2), List.of())) {
                    boolean own = other.owner.equals(n.owner);
                    boolean outers = other.owner.equals("WarHouses");
                    boolean made = sign.equals("new ") && other.owner.equals(other.name);
                    // Behind a dot stands another object's method, here always one of another class.
                    if (made || sign.equals(".") && !own || sign.isEmpty() && (own || outers)) {
                        n.calls.add(other);
                    }
                }
            }
        }
    }

    private static void reach(Node from, Node at) {
        for (Node next : at.calls) {
            if (from.reached.add(next)) {
                reach(from, next);
            }
        }
    }

    private static boolean isOneWith(Node one, Node other) {
        return one == other || one.reached.contains(other) && other.reached.contains(one);
    }

    private static int depthOf(Node n, Map<Node, Integer> known) {
        Integer found = known.get(n);
        if (found != null) {
            return found;
        }
        int deepest = 0;
        for (Node one : nodes.values()) {
            for (Node next : isOneWith(n, one) ? one.calls : Set.<Node>of()) {
                deepest = isOneWith(n, next) ? deepest : Math.max(deepest, depthOf(next, known));
            }
        }
        known.put(n, deepest + 1);
        return deepest + 1;
    }

    public static void main(String[] args) throws Exception {
        readFile();
        findCalls();
        int calls = 0;
        for (Node n : nodes.values()) {
            reach(n, n);
            calls += n.calls.size();
        }
        check(nodes.size() > 100 && calls > 200, "only " + nodes.size() + " methods and " + calls + " calls were read");
        Map<Node, Integer> known = new HashMap<>();
        int deepest = 0;
        for (Node n : nodes.values()) {
            check(n.isPrivate || !n.reached.contains(n), "rule 8: " + n.told() + " calls itself and is not private");
            int depth = depthOf(n, known);
            deepest = Math.max(deepest, depth);
            check(depth <= MOST_DEEP, "rule 11: calls go " + depth + " deep from " + n.told());
        }
        System.out.println(wrong == 0 ? "calls: " + nodes.size() + " methods, at most " + deepest + " deep" : wrong + " rules are not kept");
        if (wrong != 0) {
            System.exit(1);
        }
    }
}

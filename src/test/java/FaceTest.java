import java.lang.reflect.Field;
import java.lang.reflect.Member;
import java.lang.reflect.Method;
import java.lang.reflect.Modifier;
import java.nio.file.Files;
import java.nio.file.Path;
import java.util.ArrayList;
import java.util.List;
import java.util.Set;
import java.util.TreeSet;
import java.util.regex.Matcher;
import java.util.regex.Pattern;

/** The public face is the document's and no more, and the file keeps to the plain rules of LANGUAGE.md. */
public final class FaceTest {
    private static int wrong;

    private static void check(boolean good, String what) {
        if (!good) {
            wrong++;
            System.out.println("face: " + what);
        }
    }

    private static Set<String> documentFace() throws Exception {
        String doc = Files.readString(Path.of("../shared/DOC.md"));
        Matcher m = Pattern.compile("    public int (\\w+)\\(([^)]*)\\);").matcher(doc);
        Set<String> face = new TreeSet<>();
        while (m.find()) {
            int parameters = m.group(2).isBlank() ? 0 : m.group(2).split(",").length;
            face.add(m.group(1) + "/" + parameters);
        }
        return face;
    }

    private static boolean isPrivate(Member m) {
        return Modifier.isPrivate(m.getModifiers());
    }

    private static void faceIsTheDocuments() throws Exception {
        Set<String> due = documentFace();
        check(due.size() == 44, "the document's face has " + due.size() + " methods");
        Set<String> is = new TreeSet<>();
        Set<String> names = new TreeSet<>();
        for (Method m : WarHouses.class.getDeclaredMethods()) {
            if (!isPrivate(m)) {
                check(Modifier.isPublic(m.getModifiers()) && m.getReturnType() == int.class, m + " is not public");
                is.add(m.getName() + "/" + m.getParameterCount());
                names.add(m.getName());
            }
        }
        check(is.equals(due), "methods are " + is + ", due are " + due);
        for (Field f : WarHouses.class.getDeclaredFields()) {
            check(isPrivate(f) || f.getName().equals("NONE"), f + " is not private");
        }
        check(WarHouses.class.getConstructors().length == 1, "one public constructor");
        check(Modifier.isFinal(WarHouses.class.getModifiers()), "the class is final");
        int classes = 1;
        for (Class<?> c : WarHouses.class.getDeclaredClasses()) {
            classes++;
            check(Modifier.isStatic(c.getModifiers()) && !Modifier.isPublic(c.getModifiers()), c + " is private and static");
            int fields = 0;
            for (Field f : c.getDeclaredFields()) {
                fields += Modifier.isStatic(f.getModifiers()) ? 0 : 1;
            }
            check(fields <= 20, c + " has " + fields + " fields");
            for (Method m : c.getDeclaredMethods()) {
                check(!names.contains(m.getName()), m + " bears the name of a public method");
                check(m.getParameterCount() <= 7, m + " has too many parameters");
            }
        }
        check(classes <= 12, classes + " classes");
        for (Method m : WarHouses.class.getDeclaredMethods()) {
            check(!isPrivate(m) || !names.contains(m.getName()), m + " bears the name of a public method");
        }
    }

    private static void fileKeepsToTheRules() throws Exception {
        String text = Files.readString(Path.of("src/main/java/WarHouses.java"));
        String code = text.replaceAll("(?s)/\\*.*?\\*/", " ").replaceAll("//[^\n]*", " ").replaceAll("\"[^\"]*\"", "\"\"");
        String[] words = {"throw", "throws", "try", "catch", "synchronized", "assert", "package", "lambda", "var",
            "Long.MIN_VALUE", "Integer.MAX_VALUE", "System.out", "Random", "HashMap", "double", "float"};
        for (String w : words) {
            check(!Pattern.compile("\\b" + Pattern.quote(w) + "\\b").matcher(code).find(), "the file says " + w);
        }
        check(!code.contains("->") && !code.contains("::") && !code.contains("Exact("), "a sign that is not allowed");
        List<String> imports = new ArrayList<>();
        for (String line : text.split("\n")) {
            if (line.startsWith("import ")) {
                imports.add(line.trim());
            }
        }
        check(imports.equals(List.of("import java.util.Arrays;")), "imports are " + imports);
        for (char c : text.toCharArray()) {
            check(c == '\n' || c >= 32 && c < 127, "a sign beyond ASCII");
        }
        int begin = -1;
        String[] lines = text.split("\n");
        for (int i = 0; i < lines.length; i++) {
            if (lines[i].matches("( {4}| {8})[\\w\\[\\] ]+\\([^;]*")) {
                begin = begin < 0 ? i : begin;
            }
            if (lines[i].equals("    }") || lines[i].equals("        }")) {
                check(begin < 0 || i - begin <= 60, "a long method at line " + (begin + 1));
                begin = -1;
            }
        }
    }

    public static void main(String[] args) throws Exception {
        faceIsTheDocuments();
        fileKeepsToTheRules();
        System.out.println(wrong == 0 ? "face: as due" : wrong + " rules are not kept");
        if (wrong != 0) {
            System.exit(1);
        }
    }
}

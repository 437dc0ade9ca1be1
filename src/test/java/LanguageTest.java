import java.io.IOException;
import java.lang.reflect.Field;
import java.lang.reflect.Method;
import java.lang.reflect.Modifier;
import java.nio.file.Files;
import java.util.ArrayList;
import java.util.LinkedHashMap;
import java.util.List;
import java.util.Map;
import java.util.Set;
import java.util.TreeSet;
import java.util.regex.Matcher;
import java.util.regex.Pattern;

/** The document's face, and the rules of LANGUAGE.md that a scan of the source and of the class can see. */
public final class LanguageTest {
    private static final String[] BARRED = {"\\bthrow\\b", "\\btry\\b", "\\bcatch\\b", "\\bsynchronized\\b",
        "\\bassert\\b", "\\bprotected\\b", "\\bvolatile\\b", "\\bnative\\b", "\\bvar\\b", "\\bthrows\\b", "->", "::",
        "\\bpackage\\b", "\\bimport\\b", "\\w+Exact\\b", "\\bstatic\\s*\\{", "@\\w+", "\\bThread\\b", "\\bRandom\\b",
        "\\bSystem\\.(?!arraycopy\\b)", "\\bMath\\.(?!min\\b|max\\b)", "\\bInteger\\.(?!bitCount\\b)", "\"", "'"};

    /** A method's head, with what is ahead of its name, its name, and its indent: 4 of the desk's own, 8 of a class inside. */
    private static final Pattern HEAD = Pattern.compile("^( {4}| {8})(\\w[\\w\\[\\] ]*? )?(\\w+)\\([^;=]*$");

    private final String code;
    private final List<String> face;
    private final Map<String, String> bodies = new LinkedHashMap<>();

    private LanguageTest(String source, List<String> heads) {
        code = source.replaceAll("(?s)/\\*.*?\\*/", "").replaceAll("//[^\n]*", "");
        face = heads;
    }

    public static void main(String[] args) throws IOException {
        LanguageTest test = new LanguageTest(Files.readString(Pages.SOURCE), Pages.face());
        test.heads();
        test.members();
        for (String pattern : BARRED) {
            Matcher found = Pattern.compile(pattern).matcher(test.code);
            Check.due("the source has " + pattern, found.find() ? 1 : 0, 0);
        }
        test.methods();
        test.depth();
        test.objects();
        Check.end();
    }

    private static String typesOf(Method m) {
        List<String> types = new ArrayList<>();
        for (Class<?> type : m.getParameterTypes()) {
            types.add(type.getName());
        }
        return m.getReturnType() + " " + m.getName() + "(" + String.join(",", types) + ")";
    }

    private void heads() {
        Set<String> found = new TreeSet<>();
        for (Method m : DubDesk.class.getDeclaredMethods()) {
            if (!Modifier.isPrivate(m.getModifiers())) {
                found.add((m.getModifiers() == Modifier.PUBLIC ? "" : "not plain: ") + typesOf(m));
            }
        }
        Check.due("calls of the document", face.size(), 34);
        for (String head : face) {
            Check.due("the source has " + head, code.contains("\n    public " + head + " {\n") ? 1 : 0, 1);
            String types = head.replaceAll(" \\w+(?=[,)])", "").replace(", ", ",");
            Check.due("the face has " + types, found.remove(types) ? 1 : 0, 1);
        }
        Check.due("more in the face: " + found, found.size(), 0);
        Check.due("public and final", DubDesk.class.getModifiers(), Modifier.PUBLIC | Modifier.FINAL);
        Check.due("constructors", DubDesk.class.getDeclaredConstructors().length, 1);
        Check.due("public ones", DubDesk.class.getConstructors().length, 1);
    }

    private void members() {
        List<Class<?>> classes = new ArrayList<>(List.of(DubDesk.class.getDeclaredClasses()));
        for (Class<?> inside : classes) {
            Check.due(inside + " is static", Modifier.isStatic(inside.getModifiers()) ? 1 : 0, 1);
            Check.due(inside + " is public", Modifier.isPublic(inside.getModifiers()) ? 1 : 0, 0);
        }
        classes.add(DubDesk.class);
        Check.due("at most twelve classes", classes.size() <= 12 ? 1 : 0, 1);
        for (Class<?> each : classes) {
            int own = 0;
            for (Field f : each.getDeclaredFields()) {
                boolean isStatic = Modifier.isStatic(f.getModifiers());
                own += isStatic ? 0 : 1;
                Check.due(f + " is static, so final", isStatic && !Modifier.isFinal(f.getModifiers()) ? 1 : 0, 0);
                boolean open = each == DubDesk.class && !Modifier.isPrivate(f.getModifiers());
                Check.due(f + " is private", open ? 1 : 0, 0);
            }
            Check.due(each + " has at most twenty fields", own <= 20 ? 1 : 0, 1);
            for (Method m : each.getDeclaredMethods()) {
                Check.due(m + " takes at most seven", m.getParameterCount() <= 7 ? 1 : 0, 1);
                Check.due(m + " bears a name of the face", borrowsName(each, m) ? 1 : 0, 0);
            }
        }
    }

    private boolean borrowsName(Class<?> each, Method m) {
        boolean ofFace = each == DubDesk.class && Modifier.isPublic(m.getModifiers());
        for (String head : face) {
            if (!ofFace && head.startsWith("int " + m.getName() + "(")) {
                return true;
            }
        }
        return false;
    }

    /** Each method's lines, from its head to the brace that closes it. */
    private void methods() {
        String[] lines = code.split("\n");
        int head = -1;
        String indent = "";
        String name = "";
        for (int i = 0; i < lines.length; i++) {
            Matcher m = HEAD.matcher(lines[i]);
            if (head < 0 && m.find()) {
                head = i;
                indent = m.group(1);
                name = m.group(3);
            }
            if (head >= 0 && lines[i].equals(indent + "}")) {
                Check.due("short method " + name, i - head < 60 ? 1 : 0, 1);
                bodies.merge(name, String.join("\n", List.of(lines).subList(head + 1, i)), String::concat);
                head = -1;
            }
        }
        Check.due("methods were seen", bodies.size() > face.size() + 30 ? 1 : 0, 1);
    }

    /** Calls go at most eight deep; methods of one name count as one, which can only make it deeper. */
    private void depth() {
        for (String head : face) {
            String name = head.replaceAll("int (\\w+).*", "$1");
            int deep = depthOf(name, new ArrayList<>());
            Check.due("calls from " + name + " go " + deep + " deep", deep <= 8 ? 1 : 0, 1);
        }
    }

    private int depthOf(String name, List<String> open) {
        if (open.contains(name)) {
            Check.due(name + " calls itself", name.equals("giveDays") ? 1 : 0, 1);
            return 0;
        }
        int deepest = 0;
        open.add(name);
        Matcher call = Pattern.compile("\\b(\\w+)\\(").matcher(bodies.get(name));
        while (call.find()) {
            if (bodies.containsKey(call.group(1))) {
                deepest = Math.max(deepest, depthOf(call.group(1), open));
            }
        }
        open.remove(name);
        return deepest + 1;
    }

    /** The room is small, so only fields and constructors make objects: a run of calls makes none. */
    private void objects() {
        for (Map.Entry<String, String> method : bodies.entrySet()) {
            boolean makes = Pattern.compile("\\bnew\\b|\\bclone\\b|\\{[^;]*\\};").matcher(method.getValue()).find();
            boolean constructor = code.contains("class " + method.getKey() + " {");
            Check.due(method.getKey() + " makes objects", makes && !constructor ? 1 : 0, 0);
        }
    }
}

import java.lang.reflect.Field;
import java.lang.reflect.Method;
import java.lang.reflect.Modifier;
import java.nio.file.Files;
import java.nio.file.Path;
import java.util.ArrayList;
import java.util.List;
import java.util.Set;
import java.util.TreeSet;
import java.util.regex.Matcher;
import java.util.regex.Pattern;

/** The document's face, and the rules of LANGUAGE.md that a scan of the source and of the class can see. */
public final class LanguageTest {
    private static final String[] FACE = {"int line(int)", "int frame(int,int)", "int wording(int,int,int)",
        "int as(int,int)", "int syllable(int,int,int,int,int)", "int cut(int)", "int of(int,int)", "int told(int,int)",
        "int shape(int,int)", "int cost(int)", "int place(int,int,boolean)", "int on(int,int)", "int name(int,int)",
        "int text(int,int,int,int)", "int barred(int,int,int)", "int chosen(int,int,int)", "int lawful(int,int,int)",
        "int best(int,int,int)", "int worth(int,int)", "int actor(int,int)", "int free(int,int)", "int room(int,int)",
        "int loop(int)", "int unloop()", "int plan()", "int planned(int)", "int plans()", "int change(int,int)",
        "int kept(int,int)", "int sheet(int,int,int)", "int put(int,int,int)", "int copy(int,int,int,int,int)",
        "int undo()", "int all(int)"};

    private static final String[] BARRED = {"\\bthrow\\b", "\\btry\\b", "\\bcatch\\b", "\\bsynchronized\\b",
        "\\bassert\\b", "\\bprotected\\b", "\\bvolatile\\b", "\\bnative\\b", "\\bvar\\b", "\\bthrows\\b", "->", "::",
        "\\bpackage\\b", "\\bimport\\b", "\\w+Exact\\b", "\\bstatic\\s*\\{", "@\\w+", "\\bThread\\b", "\\bRandom\\b",
        "\\bSystem\\.(?!arraycopy\\b)", "\\bMath\\.(?!min\\b|max\\b)", "\\bInteger\\.(?!bitCount\\b)", "\"", "'"};

    public static void main(String[] args) throws Exception {
        face();
        members();
        String code = withoutComments(Files.readString(Path.of(System.getProperty("dubdesk.source"))));
        for (String pattern : BARRED) {
            Matcher found = Pattern.compile(pattern).matcher(code);
            Check.due("the source has " + pattern, found.find() ? 1 : 0, 0);
        }
        methods(code);
        Check.end();
    }

    private static String withoutComments(String text) {
        return text.replaceAll("(?s)/\\*.*?\\*/", "").replaceAll("//[^\n]*", "");
    }

    private static void face() {
        Set<String> found = new TreeSet<>();
        for (Method m : DubDesk.class.getDeclaredMethods()) {
            if (!Modifier.isPrivate(m.getModifiers())) {
                List<String> types = new ArrayList<>();
                for (Class<?> type : m.getParameterTypes()) {
                    types.add(type.getName());
                }
                boolean plain = m.getModifiers() == Modifier.PUBLIC;
                found.add((plain ? "" : "not plain: ") + m.getReturnType() + " " + m.getName() + "(" + String.join(",", types) + ")");
            }
        }
        for (String method : FACE) {
            Check.due("the face has " + method, found.remove(method) ? 1 : 0, 1);
        }
        Check.due("more in the face: " + found, found.size(), 0);
        Check.due("public and final", DubDesk.class.getModifiers(), Modifier.PUBLIC | Modifier.FINAL);
        Check.due("constructors", DubDesk.class.getDeclaredConstructors().length, 1);
        Check.due("public ones", DubDesk.class.getConstructors().length, 1);
    }

    private static void members() {
        List<Class<?>> classes = new ArrayList<>(List.of(DubDesk.class.getDeclaredClasses()));
        for (Class<?> inside : classes) {
            Check.due(inside + " is static", Modifier.isStatic(inside.getModifiers()) ? 1 : 0, 1);
            Check.due(inside + " is public", Modifier.isPublic(inside.getModifiers()) ? 1 : 0, 0);
        }
        classes.add(DubDesk.class);
        Check.due("at most twelve classes", classes.size() <= 12 ? 1 : 0, 1);
        for (Class<?> each : classes) {
            int own = 0;
            for (Field f : each.getDeclaredFields()) {
                boolean isStatic = Modifier.isStatic(f.getModifiers());
                own += isStatic ? 0 : 1;
                Check.due(f + " is static, so final", isStatic && !Modifier.isFinal(f.getModifiers()) ? 1 : 0, 0);
                boolean open = each == DubDesk.class && !Modifier.isPrivate(f.getModifiers());
                Check.due(f + " is private", open ? 1 : 0, 0);
            }
            Check.due(each + " has at most twenty fields", own <= 20 ? 1 : 0, 1);
            for (Method m : each.getDeclaredMethods()) {
                Check.due(m + " takes at most seven", m.getParameterCount() <= 7 ? 1 : 0, 1);
                Check.due(m + " bears a name of the face", borrowsName(each, m) ? 1 : 0, 0);
            }
        }
    }

    private static boolean borrowsName(Class<?> each, Method m) {
        boolean ofFace = each == DubDesk.class && Modifier.isPublic(m.getModifiers());
        for (String method : FACE) {
            if (!ofFace && method.startsWith("int " + m.getName() + "(")) {
                return true;
            }
        }
        return false;
    }

    /** Each method's lines, from its head to the brace that closes it. */
    private static void methods(String code) {
        String[] lines = code.split("\n");
        int head = -1;
        String indent = "";
        int seen = 0;
        for (int i = 0; i < lines.length; i++) {
            Matcher m = Pattern.compile("^( {4}| {8})\\w[\\w\\[\\] ]*\\([^;=]*$").matcher(lines[i]);
            if (head < 0 && m.find()) {
                head = i;
                indent = m.group(1);
                seen++;
            }
            if (head >= 0 && lines[i].equals(indent + "}")) {
                Check.due("short method at " + lines[head].trim(), i - head < 60 ? 1 : 0, 1);
                head = -1;
            }
        }
        Check.due("methods were seen", seen > FACE.length ? 1 : 0, 1);
    }
}

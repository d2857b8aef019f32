import java.lang.reflect.Constructor;
import java.lang.reflect.Field;
import java.lang.reflect.Method;
import java.lang.reflect.Modifier;
import java.nio.file.Files;
import java.nio.file.Path;
import java.util.Set;
import java.util.TreeSet;
import java.util.regex.Matcher;
import java.util.regex.Pattern;

/** The public face of the document, and the rules of LANGUAGE.md that can be seen from outside. */
public final class FaceTest {
    private static final Due due = new Due("FaceTest");
    private static final String[] FACE = {
        "back()", "box(int,int,int,int)", "check(int)", "clear()", "count(int)", "days(int)",
        "feed(long,int)", "find(int)", "giveBack(int,int)", "keep()", "lack(int)", "lease(int,int)",
        "least()", "leave(int,int,boolean)", "many(int)", "match(int)", "net(int,int)", "of(int,int)",
        "owes(int,int,int)", "quarrels(int,int)", "rate(int,int)", "read(int)",
        "route(int,int,int,int)", "since(int,int,int)", "strike(int)", "suits(int,int)",
        "turn(boolean,int,int,int,int,int)", "use(int,int,int,int)", "week(int,int,int,int)",
        "where(int,int,int)", "word(int,int,int,int)", "worth(int,int)", "writeOff(int)"};

    public static void main(String[] args) throws Exception {
        methods();
        fields();
        classesInside();
        words();
        lengths();
        due.end();
    }

    private static void methods() {
        Set<String> face = new TreeSet<>();
        Set<String> publicNames = new TreeSet<>();
        for (Method m : EmptyBoxes.class.getDeclaredMethods()) {
            if (Modifier.isPublic(m.getModifiers())) {
                publicNames.add(m.getName());
                face.add(signature(m));
                due.is("face: " + m.getName() + " answers", m.getReturnType().getName(), "int");
            }
        }
        due.is("face: methods", face.toString(), new TreeSet<>(Set.of(FACE)).toString());
        for (Method m : EmptyBoxes.class.getDeclaredMethods()) {
            if (!Modifier.isPublic(m.getModifiers())) {
                due.is("rule 1: " + m.getName() + " is private", Modifier.isPrivate(m.getModifiers()) ? 1 : 0, 1);
                due.is("rule 1: " + m.getName() + " is a public name", publicNames.contains(m.getName()) ? 1 : 0, 0);
            }
        }
        due.is("face: constructors", EmptyBoxes.class.getDeclaredConstructors().length, 1);
        for (Constructor<?> c : EmptyBoxes.class.getDeclaredConstructors()) {
            due.is("face: constructor", Modifier.isPublic(c.getModifiers()) && c.getParameterCount() == 0 ? 1 : 0, 1);
        }
        due.is("face: final", Modifier.isFinal(EmptyBoxes.class.getModifiers()) ? 1 : 0, 1);
    }

    private static String signature(Method m) {
        StringBuilder s = new StringBuilder(m.getName()).append('(');
        for (Class<?> type : m.getParameterTypes()) {
            s.append(s.charAt(s.length() - 1) == '(' ? "" : ",").append(type.getName());
        }
        return s.append(')').toString();
    }

    private static void fields() {
        Set<String> seen = new TreeSet<>();
        for (Field f : EmptyBoxes.class.getDeclaredFields()) {
            int modifiers = f.getModifiers();
            if (!Modifier.isPrivate(modifiers)) {
                seen.add(f.getName());
            }
            if (Modifier.isStatic(modifiers)) {
                due.is("rule 5: " + f.getName() + " is final", Modifier.isFinal(modifiers) ? 1 : 0, 1);
            }
        }
        due.is("face: constants", seen.toString(), "[FULL, NONE, NUMBER, STATE]");
        due.is("NUMBER", EmptyBoxes.NUMBER, -1);
        due.is("FULL", EmptyBoxes.FULL, -2);
        due.is("NONE", EmptyBoxes.NONE, -3);
        due.is("STATE", EmptyBoxes.STATE, -4);
    }

    private static void classesInside() {
        Class<?>[] inside = EmptyBoxes.class.getDeclaredClasses();
        due.is("rule 11: at most twelve classes", inside.length <= 11 ? 1 : 0, 1);
        Set<String> publicNames = new TreeSet<>();
        for (Method m : EmptyBoxes.class.getMethods()) {
            publicNames.add(m.getName());
        }
        for (Class<?> c : inside) {
            due.is("rule 1: " + c.getName() + " is static", Modifier.isStatic(c.getModifiers()) ? 1 : 0, 1);
            due.is("rule 1: " + c.getName() + " isn't public", Modifier.isPublic(c.getModifiers()) ? 1 : 0, 0);
            due.is("rule 11: fields of " + c.getName(), ownFields(c) <= 20 ? 1 : 0, 1);
            for (Method m : c.getDeclaredMethods()) {
                due.is("rule 1: " + c.getName() + "." + m.getName(), publicNames.contains(m.getName()) ? 1 : 0, 0);
                due.is("rule 11: parameters of " + m.getName(), m.getParameterCount() <= 7 ? 1 : 0, 1);
            }
        }
    }

    private static int ownFields(Class<?> c) {
        int found = 0;
        for (Field f : c.getDeclaredFields()) {
            found += Modifier.isStatic(f.getModifiers()) ? 0 : 1;
        }
        return found;
    }

    private static void words() throws Exception {
        String source = Files.readString(Path.of("src/main/java/EmptyBoxes.java"));
        String code = source.replaceAll("(?s)/\\*.*?\\*/", " ").replaceAll("//[^\n]*", " ");
        String[] ruledOut = {"\\bthrow\\b", "\\btry\\b", "\\bcatch\\b", "\\bsynchronized\\b", "\\bassert\\b",
            "->", "::", "\\bpackage\\b", "\\bimport\\b", "\\bSystem\\.(?!arraycopy)", "Exact\\b", "\\bnew Random\\b"};
        for (String word : ruledOut) {
            Matcher m = Pattern.compile(word).matcher(code);
            due.is("rules 3 to 13: " + word, m.find() ? 1 : 0, 0);
        }
        for (int i = 0; i < source.length(); i++) {
            if (source.charAt(i) > 127) {
                due.is("a sign above 127 at " + i, source.charAt(i), 0);
            }
        }
    }

    /** Rule 11: short methods. README.md: all objects are made by constructors and by the fields themselves. */
    private static void lengths() throws Exception {
        String[] rows = Files.readString(Path.of("src/main/java/EmptyBoxes.java")).split("\n");
        Pattern head = Pattern.compile("( {4}| {8})(?:\\S[^(]* )?(\\w+)\\(.*\\{");
        Pattern making = Pattern.compile("\\bnew [A-Za-z]+[(\\[]");
        String method = "";
        String end = "";
        int begun = 0;
        int methods = 0;
        for (int i = 0; i < rows.length; i++) {
            Matcher m = head.matcher(rows[i]);
            if (method.isEmpty() && m.matches()) {
                method = m.group(2);
                end = m.group(1) + "}";
                begun = i;
                methods++;
            }
            boolean isConstructor = method.isEmpty() || Character.isUpperCase(method.charAt(0));
            due.is("an object is made in " + method, making.matcher(rows[i]).find() && !isConstructor ? 1 : 0, 0);
            if (!method.isEmpty() && rows[i].equals(end)) {
                due.is("rule 11: rows of " + method, i - begun < 60 ? 1 : 0, 1);
                method = "";
            }
        }
        due.is("the last method has its end", method, "");
        int declared = EmptyBoxes.class.getDeclaredMethods().length;
        for (Class<?> c : EmptyBoxes.class.getDeclaredClasses()) {
            declared += c.getDeclaredMethods().length;
        }
        due.is("each method was seen", methods >= declared ? 1 : 0, 1);
    }
}

import java.io.IOException;
import java.lang.reflect.Field;
import java.lang.reflect.Member;
import java.lang.reflect.Method;
import java.lang.reflect.Modifier;
import java.nio.file.Files;
import java.nio.file.Path;
import java.util.ArrayList;
import java.util.Arrays;
import java.util.List;
import java.util.Set;
import java.util.TreeSet;
import java.util.regex.Matcher;
import java.util.regex.Pattern;

/** Holds the class against the document's face and against those rules of LANGUAGE.md that can be seen from outside. */
public final class LanguageTest {
    private static final Checks C = new Checks();
    private static final String[] FACE = {
        "int feed(int, int, int, int, int)",
        "int text(int) throws IllegalArgumentException",
        "int fault()",
        "int send(int, int, int, int, int) throws IllegalArgumentException, IllegalStateException",
        "int forget()",
        "boolean link(int, int) throws NoSuchElementException, IllegalArgumentException",
        "int route(int, int, int) throws NoSuchElementException, IllegalArgumentException",
        "int set(int, int) throws IllegalArgumentException",
        "int undo()",
        "int told(int) throws IllegalArgumentException",
        "int linkTold(int, int) throws NoSuchElementException, IllegalArgumentException",
        "int routeTold(int, int) throws NoSuchElementException",
        "int packet(int, int) throws NoSuchElementException, IllegalArgumentException",
        "int trail(int, int, int) throws NoSuchElementException, IllegalArgumentException",
        "int reports(int, int, int) throws NoSuchElementException, IllegalArgumentException",
        "int label(int)",
        "int joints(int) throws IllegalArgumentException",
        "int walk(int, int, int) throws NoSuchElementException, IllegalArgumentException",
        "int walkAt(int, int, int) throws NoSuchElementException, IllegalArgumentException",
        "int joined(int) throws IllegalArgumentException",
        "long estimate(int, int, int) throws NoSuchElementException, IllegalArgumentException",
        "long matrix(int, int, int) throws NoSuchElementException, IllegalArgumentException",
        "int fates(int) throws IllegalArgumentException",
        "int leastLabels()",
        "long unlike(int, boolean) throws IllegalArgumentException",
        "int clashes(int) throws IllegalArgumentException",
        "int bestKey(int, int) throws IllegalArgumentException",
        "int bestMask(int) throws IllegalArgumentException",
        "long print()",
        "int status(int)"};
    private static final String[] NOT_TO_STAND = {
        "\\bpackage\\b", "\\bfinally\\b", "\\bsynchronized\\b", "\\bassert\\b", "->", "::", "\\bgetMessage\\b", "\\bcatch\\b",
        "\\btry\\b", "static \\{", "\\bThread\\b", "System\\.(?!arraycopy)", "Math\\.(?!min|max|abs|floor)", "\\w+Exact\\(",
        "\\bvar\\b", "\\bRandom\\b", "\\bhashCode\\b", "\\btoString\\b", "while \\(true\\)", "for \\(;;"};

    public static void main(String[] args) throws IOException {
        face();
        source(Files.readString(Path.of("src/main/java/PacketTrail.java")));
        C.finish();
    }

    private static void face() {
        C.part("rule 1");
        Set<String> open = new TreeSet<>();
        Set<String> openNames = new TreeSet<>();
        for (Method m : PacketTrail.class.getDeclaredMethods()) {
            if (Modifier.isPublic(m.getModifiers())) {
                open.add(told(m));
                openNames.add(m.getName());
            }
        }
        C.due("the face: " + open, open.equals(new TreeSet<>(Arrays.asList(FACE))) ? 1 : 0, 1);
        C.due("public and final", PacketTrail.class.getModifiers(), Modifier.PUBLIC | Modifier.FINAL);
        C.due("constructors", PacketTrail.class.getDeclaredConstructors().length, 1);
        List<Member> members = new ArrayList<>(Arrays.asList(PacketTrail.class.getDeclaredMethods()));
        members.addAll(Arrays.asList(PacketTrail.class.getDeclaredFields()));
        for (Member m : members) {
            boolean isFace = m instanceof Method ? open.contains(told((Method) m)) : m.getName().equals("NONE");
            if (!isFace && !m.isSynthetic()) {
                C.due("private: " + m.getName(), Modifier.isPrivate(m.getModifiers()) ? 1 : 0, 1);
                C.due("a name of the face: " + m.getName(), m instanceof Method && openNames.contains(m.getName()) ? 1 : 0, 0);
            }
        }
        sizes();
    }

    private static void sizes() {
        C.part("rules 2, 5 and 11");
        Class<?>[] inside = PacketTrail.class.getDeclaredClasses();
        C.due("at most twelve classes", inside.length <= 11 ? 1 : 0, 1);
        List<Class<?>> all = new ArrayList<>(Arrays.asList(inside));
        for (Class<?> c : all) {
            C.due("static: " + c, Modifier.isStatic(c.getModifiers()) ? 1 : 0, 1);
        }
        all.add(PacketTrail.class);
        for (Class<?> c : all) {
            int fields = 0;
            for (Field f : c.getDeclaredFields()) {
                boolean constant = Modifier.isStatic(f.getModifiers());
                fields += constant ? 0 : 1;
                C.due("final: " + f, !constant || Modifier.isFinal(f.getModifiers()) ? 1 : 0, 1);
            }
            C.due("at most twenty fields: " + c, fields <= 20 ? 1 : 0, 1);
            for (Method m : c.getDeclaredMethods()) {
                C.due("at most seven parameters: " + m, m.getParameterCount() <= 7 ? 1 : 0, 1);
            }
        }
    }

    private static String told(Method m) {
        StringBuilder s = new StringBuilder(m.getReturnType().getSimpleName() + " " + m.getName() + "(");
        for (Class<?> c : m.getParameterTypes()) {
            s.append(s.charAt(s.length() - 1) == '(' ? "" : ", ").append(c.getSimpleName());
        }
        s.append(")");
        for (Class<?> c : m.getExceptionTypes()) {
            s.append(s.indexOf("throws") < 0 ? " throws " : ", ").append(c.getSimpleName());
        }
        return s.toString();
    }

    private static void source(String source) {
        C.part("rules 3 to 10");
        String code = source.replaceAll("(?s)/\\*.*?\\*/", "").replaceAll("//[^\n]*", "").replaceAll("\"[^\"\n]*\"", "\"\"");
        for (String not : NOT_TO_STAND) {
            Matcher m = Pattern.compile(not).matcher(code);
            C.due("\"" + not + "\" stands", m.find() ? 1 : 0, 0);
        }
        for (String line : source.split("\n")) {
            if (line.startsWith("import ")) {
                C.due(line, line.equals("import java.util.Arrays;") || line.equals("import java.util.NoSuchElementException;") ? 1 : 0, 1);
            }
            C.due("signs of " + line, line.chars().allMatch(c -> c >= 32 && c < 127) ? 1 : 0, 1);
        }
        int length = 0;
        for (String line : source.split("\n")) {
            length++;
            if (line.matches(" {4}(    )?}") || line.matches(" {4}(    )?(public|private|final|static|int|void|boolean|long).*[{;]")) {
                C.due("at most sixty lines up to " + line, length <= 60 ? 1 : 0, 1);
                length = 0;
            }
        }
    }
}

import java.io.IOException;
import java.lang.reflect.Field;
import java.lang.reflect.Member;
import java.lang.reflect.Method;
import java.lang.reflect.Modifier;
import java.nio.file.Files;
import java.nio.file.Path;
import java.util.ArrayList;
import java.util.List;
import java.util.Set;
import java.util.TreeSet;
import java.util.regex.Matcher;
import java.util.regex.Pattern;

/** Those rules of LANGUAGE.md that can be looked at without understanding the program. */
public final class RulesTest {
    private static final Check C = new Check();
    private static final String FACE = "schema version byDefault object row write read forget graft ref of name copy"
        + " graph sweep shelf put sign save load cause judge told reaches alike stream image back hold held tells count";
    private static final String[] REFUSED = {"\\bthrows?\\b", "\\btry\\b", "\\bcatch\\b", "\\bsynchronized\\b",
        "\\bassert\\b", "\\bimport\\b", "\\bpackage\\b", "->", "::", "\\bhashCode\\b", "\\btoString\\b", "Exact\\b",
        "\\bRandom\\b", "\\bThread\\b", "System\\.(?!arraycopy)", "\\bObject\\b", "\\bprotected\\b", "@"};

    public static void main(String[] args) throws IOException {
        rule1Face();
        rules2And5Classes();
        String code = bare(Files.readString(Path.of("src/main/java/GraphSaver.java")));
        words(code);
        rule11MethodsStayShort(code);
        C.end();
    }

    private static Set<String> openNames(Member[] members) {
        Set<String> names = new TreeSet<>();
        for (Member member : members) {
            if (!Modifier.isPrivate(member.getModifiers())) {
                names.add(member.getName());
            }
        }
        return names;
    }

    private static void rule1Face() {
        Set<String> face = new TreeSet<>(List.of(FACE.split(" ")));
        C.due("methods of the face", face.size(), 32);
        C.isTrue("the methods of the face", openNames(GraphSaver.class.getDeclaredMethods()).equals(face));
        Set<String> constants = new TreeSet<>(List.of("BAD", "NOT", "FULL", "STATE", "VOID"));
        C.isTrue("the constants of the face", openNames(GraphSaver.class.getDeclaredFields()).equals(constants));
        C.due("constructors", GraphSaver.class.getDeclaredConstructors().length, 1);
        C.isTrue("public and final", (GraphSaver.class.getModifiers() & 17) == 17);
        for (Class<?> inside : allClasses()) {
            for (Method method : inside.getDeclaredMethods()) {
                boolean isFace = inside == GraphSaver.class && Modifier.isPublic(method.getModifiers());
                C.isTrue("no other method is named " + method.getName(), isFace || !face.contains(method.getName()));
                C.isTrue("parameters of " + method.getName(), method.getParameterCount() <= 7);
            }
        }
    }

    private static List<Class<?>> allClasses() {
        List<Class<?>> all = new ArrayList<>(List.of(GraphSaver.class.getDeclaredClasses()));
        all.add(GraphSaver.class);
        return all;
    }

    private static void rules2And5Classes() {
        C.isTrue("some twelve classes", allClasses().size() <= 12);
        for (Class<?> inside : allClasses()) {
            int fields = 0;
            C.isTrue(inside + " static", inside == GraphSaver.class || Modifier.isStatic(inside.getModifiers()));
            C.due("classes inside " + inside, inside == GraphSaver.class ? 0 : inside.getDeclaredClasses().length, 0);
            for (Field field : inside.getDeclaredFields()) {
                boolean isStatic = Modifier.isStatic(field.getModifiers());
                fields += isStatic ? 0 : 1;
                C.isTrue(field + " final", !isStatic || Modifier.isFinal(field.getModifiers()));
            }
            C.isTrue("some twenty fields of " + inside, fields <= 20);
        }
    }

    /** The code without comments and without what stands between quotes. */
    private static String bare(String code) {
        return code.replaceAll("(?s)/\\*.*?\\*/", "").replaceAll("//[^\n]*", "").replaceAll("'[^']*'", "' '");
    }

    private static void words(String code) {
        for (String refused : REFUSED) {
            Matcher found = Pattern.compile(refused).matcher(code);
            C.isTrue("no " + refused, !found.find());
        }
    }

    /** A method begins at an opening brace behind a closing bracket, on a line that is no statement. */
    private static void rule11MethodsStayShort(String code) {
        Matcher begin = Pattern.compile("(?m)^ +(?!if|for|while|switch|else)[\\w\\[\\] ]+\\([^;{}]*\\) \\{$").matcher(code);
        int methods = 0;
        while (begin.find()) {
            methods++;
            int open = 1;
            int at = begin.end();
            int lines = 1;
            for (; at < code.length() && open > 0; at++) {
                char c = code.charAt(at);
                open += c == '{' ? 1 : c == '}' ? -1 : 0;
                lines += c == '\n' ? 1 : 0;
            }
            C.isTrue("short: " + begin.group().trim() + " has " + lines, lines <= 60);
        }
        C.isTrue("methods were found", methods > 100);
    }
}

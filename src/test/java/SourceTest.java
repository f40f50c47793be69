import java.io.IOException;
import java.lang.reflect.Constructor;
import java.lang.reflect.Field;
import java.lang.reflect.Method;
import java.lang.reflect.Modifier;
import java.nio.file.Files;
import java.nio.file.Path;
import java.util.Arrays;
import java.util.HashSet;
import java.util.List;
import java.util.Set;
import java.util.regex.Pattern;

/** What can be seen by a machine of ../shared/LANGUAGE.md, and the face of the document. */
public final class SourceTest {
    private static final List<String> FACE = List.of(
        "int feed(int)", "int school()", "int layer(int,int,int,int,int)", "int of(int,int)", "int side(int,int)",
        "int broken(int,boolean)", "int row(int,int,int)", "int egg()", "int told(int)", "int drop(int,int)",
        "int fall(int,int,int)", "int highest(int)", "int best(int,int)", "int lighter(int,int,int)",
        "int shift(int,int)", "int tries(int,int)", "int failed(int,int)", "int see(int,int,boolean)",
        "int strong(int)", "long odds(int,int)", "long mean(int,int)", "int book(int,int,int)", "int looked()",
        "int act(int,int,int)", "int trace(int)", "int as(int,int)", "int image()", "int undo()", "int count(int)");

    private static final List<String> RULED_OUT = List.of(
        "\\bthrows?\\b", "\\btry\\b", "\\bcatch\\b", "\\bsynchronized\\b", "\\bassert\\b", "->", "::", "\\bimport\\b",
        "\\bpackage\\b", "\\bThread\\b", "\\bRandom\\b", "\\bclass \\w+ extends \\w*Exception", "Exact\\b",
        "\\bhashCode\\b", "\\btoString\\b", "\\bdouble\\b", "\\bfloat\\b", "\\bObject\\b", "\\bstatic \\{");

    public static void main(String[] args) throws IOException {
        face();
        nested();
        text();
        Check.end();
    }

    private static String signature(Method method) {
        StringBuilder out = new StringBuilder(method.getReturnType().getName() + " " + method.getName() + "(");
        for (Class<?> type : method.getParameterTypes()) {
            out.append(out.charAt(out.length() - 1) == '(' ? "" : ",").append(type.getName());
        }
        return out.append(")").toString();
    }

    private static void face() {
        int modifiers = EggDrop.class.getModifiers();
        Check.isTrue("public and final", Modifier.isPublic(modifiers) && Modifier.isFinal(modifiers));
        Constructor<?>[] constructors = EggDrop.class.getDeclaredConstructors();
        Check.due("constructors", constructors.length, 1);
        Check.isTrue("it is public, of nothing",
            Modifier.isPublic(constructors[0].getModifiers()) && constructors[0].getParameterCount() == 0);
        Set<String> names = new HashSet<>();
        for (String one : FACE) {
            names.add(one.substring(one.indexOf(' ') + 1, one.indexOf('(')));
        }
        int found = 0;
        for (Method method : EggDrop.class.getDeclaredMethods()) {
            boolean isFace = Modifier.isPublic(method.getModifiers()) && FACE.contains(signature(method));
            found += isFace ? 1 : 0;
            boolean isOwn = Modifier.isPrivate(method.getModifiers()) && !names.contains(method.getName());
            Check.isTrue("of the face, or private: " + method, isFace || isOwn);
        }
        Check.due("methods of the face", found, FACE.size());
        List<String> constants = List.of("NONE", "BAD", "STATE", "FULL", "NO");
        for (Field field : EggDrop.class.getDeclaredFields()) {
            boolean isPrivate = Modifier.isPrivate(field.getModifiers());
            Check.isTrue("a constant, or private: " + field, isPrivate != constants.contains(field.getName()));
        }
    }

    private static void nested() {
        Check.isTrue("some twelve classes", EggDrop.class.getDeclaredClasses().length <= 11);
        for (Class<?> one : EggDrop.class.getDeclaredClasses()) {
            Check.isTrue("static: " + one, Modifier.isStatic(one.getModifiers()));
            Check.isTrue("not public: " + one, !Modifier.isPublic(one.getModifiers()));
            Check.isTrue("fields of " + one, Arrays.stream(one.getDeclaredFields())
                .filter(field -> !Modifier.isStatic(field.getModifiers())).count() <= 20);
            for (Field field : one.getDeclaredFields()) {
                boolean isStatic = Modifier.isStatic(field.getModifiers());
                Check.isTrue("final: " + field, !isStatic || Modifier.isFinal(field.getModifiers()));
            }
            for (Method method : one.getDeclaredMethods()) {
                Check.isTrue("seven parameters: " + method, method.getParameterCount() <= 7);
            }
        }
    }

    private static void text() throws IOException {
        String source = Files.readString(Path.of("src/main/java/EggDrop.java"));
        Check.isTrue("signs 1 to 127 alone", source.chars().allMatch(sign -> sign > 0 && sign < 128));
        String code = source.replaceAll("(?s)/\\*.*?\\*/", "").replaceAll("//[^\n]*", "").replaceAll("\"[^\"\n]*\"", "");
        for (String one : RULED_OUT) {
            Check.isTrue("none of " + one, !Pattern.compile(one).matcher(code).find());
        }
        int lines = 0;
        for (String line : code.split("\n")) {
            lines = line.matches(" {4}( {4})?\\S.*\\) \\{") ? 0 : lines + 1;
            Check.isTrue("short methods: " + line, lines <= 60 || line.isBlank() || !line.startsWith("        "));
        }
    }
}

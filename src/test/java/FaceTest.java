import java.io.IOException;
import java.lang.reflect.Constructor;
import java.lang.reflect.Field;
import java.lang.reflect.Method;
import java.lang.reflect.Modifier;
import java.nio.file.Files;
import java.nio.file.Path;
import java.util.Set;
import java.util.TreeSet;
import java.util.regex.Matcher;
import java.util.regex.Pattern;

/** The document's face, and those rules of ../shared/LANGUAGE.md that can be looked up in the class or its text. */
public final class FaceTest {
    private static final Path SOURCE = Path.of("src/main/java/BlownSpaces.java");
    private static final String[] METHODS = {
        "int product(int,int,int)", "int blow()", "int curved()", "int curve(int,int)", "int conics()",
        "int space(int)", "long worth(int)", "int term(int)", "int set(int,int,int)", "int tell(int,int,long)",
        "int of(int,int)", "long number(int,int)", "int drop()", "int canonical()", "long met(int)",
        "long meets(int,int)", "long meetsAll(int)", "long self(int,int)", "int like(int,int)", "long chern(int)",
        "long cutOut(int,int)", "long through(int,int,int)", "int fits(int,int,long,int)", "int judge(int)",
        "long lots(int,int,int)", "int feed(int)", "int wipe()", "int read()", "int acts()", "int write(int)",
        "int paper(int)", "int list(int,int,int)", "int put(int,int,long)", "long get(int,int)",
        "int copy(int,int,int,int,int)", "int act(int,int,int)", "int trace(int)", "int taken(int,int)",
        "int undo()", "int redo()", "int image()", "int alike()", "int back()", "int count(int)"
    };
    /** Words and signs that the rules leave no place for. */
    private static final String[] FORBIDDEN = {
        "\\bthrow\\b", "\\bthrows\\b", "\\btry\\b", "\\bcatch\\b", "\\bsynchronized\\b", "\\bassert\\b", "->", "::",
        "\\bpackage\\b", "\\bSystem\\.(?!arraycopy)", "\\bMath\\.\\w*Exact\\b", "\\bObject\\b", "\\bThread\\b",
        "\\bHashMap\\b", "\\bString\\.", "\\bObjects\\b", "\\.equals\\b", "\\.hashCode\\b", "\\.toString\\b",
        "\\bvar\\b", "\\bstatic\\s*\\{", "\\bdouble\\b", "\\bfloat\\b", "\\bInteger\\.", "[^\\x00-\\x7f]"
    };

    public static void main(String[] args) throws IOException {
        face();
        inside();
        text();
        Due.end("FaceTest");
    }

    private static String told(Method method) {
        StringBuilder text = new StringBuilder(method.getReturnType() + " " + method.getName() + "(");
        for (Class<?> type : method.getParameterTypes()) {
            text.append(text.charAt(text.length() - 1) == '(' ? "" : ",").append(type);
        }
        return text.append(")").toString();
    }

    private static void face() {
        int modifiers = BlownSpaces.class.getModifiers();
        Due.is("public final", Modifier.isPublic(modifiers) && Modifier.isFinal(modifiers) ? 1 : 0, 1);
        Constructor<?>[] made = BlownSpaces.class.getDeclaredConstructors();
        Due.is("one constructor", made.length, 1);
        Due.is("public, without parameters", Modifier.isPublic(made[0].getModifiers()) && made[0].getParameterCount() == 0 ? 1 : 0, 1);
        Set<String> open = new TreeSet<>();
        Set<String> names = new TreeSet<>();
        for (Method method : BlownSpaces.class.getDeclaredMethods()) {
            if (Modifier.isPublic(method.getModifiers())) {
                open.add(told(method));
                names.add(method.getName());
            }
        }
        Due.is("methods " + open, open.equals(new TreeSet<>(Set.of(METHODS))) ? 1 : 0, 1);
        for (Method method : BlownSpaces.class.getDeclaredMethods()) {
            boolean isPrivate = Modifier.isPrivate(method.getModifiers()) && !names.contains(method.getName());
            Due.is(method.getName() + " is public or private with another name",
                Modifier.isPublic(method.getModifiers()) || isPrivate || method.isSynthetic() ? 1 : 0, 1);
        }
        Set<String> constants = new TreeSet<>();
        for (Field field : BlownSpaces.class.getDeclaredFields()) {
            if (!Modifier.isPrivate(field.getModifiers()) && !field.isSynthetic()) {
                constants.add(Modifier.toString(field.getModifiers()) + " " + field.getType() + " " + field.getName());
            }
        }
        Due.is("constants " + constants, constants.equals(Set.of("public static final int BAD",
            "public static final int NOT", "public static final int FULL", "public static final int STATE",
            "public static final long VOID", "public static final long GONE")) ? 1 : 0, 1);
        Due.is("BAD", BlownSpaces.BAD, -1);
        Due.is("NOT", BlownSpaces.NOT, -2);
        Due.is("FULL", BlownSpaces.FULL, -3);
        Due.is("STATE", BlownSpaces.STATE, -5);
        Due.is("VOID", BlownSpaces.VOID, Long.MIN_VALUE);
        Due.is("GONE", BlownSpaces.GONE, Long.MIN_VALUE + 1);
    }

    private static void inside() {
        Class<?>[] classes = BlownSpaces.class.getDeclaredClasses();
        Due.is("at most twelve classes", classes.length + 1 <= 12 ? 1 : 0, 1);
        fewFields(BlownSpaces.class);
        for (Class<?> one : classes) {
            int modifiers = one.getModifiers();
            Due.is(one + " is static", Modifier.isStatic(modifiers) ? 1 : 0, 1);
            Due.is(one + " is not public", Modifier.isPublic(modifiers) || Modifier.isProtected(modifiers) ? 1 : 0, 0);
            Due.is(one + " has none inside", one.getDeclaredClasses().length, 0);
            fewFields(one);
            for (Method method : one.getDeclaredMethods()) {
                Due.is(one + " " + method.getName() + " is no name of the face", isOfFace(method.getName()) ? 1 : 0, 0);
            }
        }
    }

    private static boolean isOfFace(String name) {
        for (String method : METHODS) {
            if (method.contains(" " + name + "(")) {
                return true;
            }
        }
        return false;
    }

    private static void fewFields(Class<?> one) {
        int own = 0;
        for (Field field : one.getDeclaredFields()) {
            boolean isStatic = Modifier.isStatic(field.getModifiers());
            own += isStatic ? 0 : 1;
            Due.is(one + " " + field.getName() + " is final or no static", !isStatic || Modifier.isFinal(field.getModifiers()) ? 1 : 0, 1);
        }
        Due.is(one + " has some twenty fields", own <= 20 ? 1 : 0, 1);
        for (Method method : one.getDeclaredMethods()) {
            Due.is(method + " has seven parameters", method.getParameterCount() <= 7 ? 1 : 0, 1);
        }
    }

    private static void text() throws IOException {
        String source = Files.readString(SOURCE);
        String bare = Pattern.compile("/\\*.*?\\*/|//[^\\n]*", Pattern.DOTALL).matcher(source).replaceAll("");
        for (String word : FORBIDDEN) {
            Matcher matcher = Pattern.compile(word).matcher(bare);
            Due.is("forbidden " + word, matcher.find() ? 1 : 0, 0);
        }
        Matcher imports = Pattern.compile("\\bimport\\s+([\\w.*]+)").matcher(bare);
        while (imports.find()) {
            Due.is("import " + imports.group(1), imports.group(1).equals("java.util.Arrays") ? 1 : 0, 1);
        }
        int begin = -1;
        String[] lines = source.split("\n");
        for (int k = 0; k < lines.length; k++) {
            if (lines[k].matches(" {4,8}\\S.*\\) \\{") && !lines[k].contains(" class ")) {
                begin = k;
            }
            if (begin >= 0 && lines[k].matches(" {4,8}\\}") && lines[k].indexOf('}') == lines[begin].length() - lines[begin].stripLeading().length()) {
                Due.is("lines of " + lines[begin].strip(), k - begin + 1 <= 60 ? 1 : 0, 1);
                begin = -1;
            }
        }
    }
}

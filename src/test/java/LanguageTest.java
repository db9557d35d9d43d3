import java.io.IOException;
import java.lang.reflect.Constructor;
import java.lang.reflect.Field;
import java.lang.reflect.Method;
import java.lang.reflect.Modifier;
import java.nio.charset.StandardCharsets;
import java.nio.file.Files;
import java.nio.file.Path;
import java.util.Arrays;
import java.util.TreeSet;
import java.util.regex.Pattern;

/** The face as the document has it, and what of the language's rules can be read from the source. */
public final class LanguageTest {
    private static final String[] FACE = {
        "int feed(int,int,int,int,int)", "boolean end(int)",
        "int leg(int,int,int) throws IndexOutOfBoundsException,IllegalArgumentException,UnsupportedOperationException",
        "boolean hang(int,int,int) throws IndexOutOfBoundsException", "boolean take(int) throws IndexOutOfBoundsException",
        "void air(int,int,int) throws IndexOutOfBoundsException,IllegalArgumentException",
        "boolean open(int,boolean) throws IndexOutOfBoundsException", "int days(int) throws IllegalArgumentException",
        "int rules() throws IllegalArgumentException", "int fault()",
        "int fed(int,int,int) throws IndexOutOfBoundsException,IllegalArgumentException",
        "int known(int,int,int) throws IndexOutOfBoundsException", "int seal(int) throws IndexOutOfBoundsException",
        "int look(int,int) throws IndexOutOfBoundsException,NoSuchElementException",
        "int on(int,int) throws IndexOutOfBoundsException", "boolean should(int,int,int) throws IndexOutOfBoundsException",
        "int moves()", "int order(int) throws IllegalArgumentException", "int count(int)"};

    /** Patterns that the rules leave no place for; those with a word's edge look at words alone. */
    private static final String[] FORBIDDEN = {
        "->", "::", "\\bcatch\\b", "\\btry\\b", "\\bfinally\\b", "\\bsynchronized\\b", "\\bassert\\b", "\\bpackage\\b",
        "\\brecord\\b", "\\bSystem\\.(?!arraycopy)", "\\bMath\\.(?!max|min|abs)", "\\bInteger\\.(?!bitCount)",
        "\\bThread\\b", "\\bObject\\b", "\\bRandom\\b", "\\bequals\\(", "\\bhashCode\\b", "\\btoString\\b",
        "\"\\s*\\+", "\\+\\s*\"", "\\bwhile \\(true\\)", "for \\(;;\\)"};

    public static void main(String[] args) throws IOException {
        face();
        source();
        Check.close("LanguageTest");
    }

    private static void face() {
        TreeSet<String> got = new TreeSet<>();
        TreeSet<String> hidden = new TreeSet<>();
        for (Method method : HamCellar.class.getDeclaredMethods()) {
            if (Modifier.isPrivate(method.getModifiers())) {
                hidden.add(method.getName());
            } else {
                got.add(described(method));
            }
        }
        TreeSet<String> want = new TreeSet<>(Arrays.asList(FACE));
        Check.due("the face " + got, got.equals(want), true);
        for (String call : want) {
            String name = call.substring(call.indexOf(' ') + 1, call.indexOf('('));
            Check.due("a hidden method bears the name " + name, hidden.contains(name), false);
        }
        Check.due("public and final", HamCellar.class.getModifiers(), Modifier.PUBLIC | Modifier.FINAL);
        Constructor<?>[] made = HamCellar.class.getDeclaredConstructors();
        Check.due("one constructor", made.length, 1);
        Check.due("that is public, without arguments",
                Modifier.isPublic(made[0].getModifiers()) && made[0].getParameterCount() == 0, true);
        Check.due("NONE", HamCellar.NONE, -1);
        for (Field field : HamCellar.class.getDeclaredFields()) {
            boolean shown = !Modifier.isPrivate(field.getModifiers());
            Check.due("field " + field.getName() + " is shown", shown, field.getName().equals("NONE"));
            boolean loose = Modifier.isStatic(field.getModifiers()) && !Modifier.isFinal(field.getModifiers());
            Check.due("static field " + field.getName() + " may change", loose, false);
        }
        int fields = 0;
        for (Class<?> inside : HamCellar.class.getDeclaredClasses()) {
            int modifiers = inside.getModifiers();
            Check.due(inside.getName() + " is private and static",
                    Modifier.isPrivate(modifiers) && Modifier.isStatic(modifiers), true);
            fields = Math.max(fields, inside.getDeclaredFields().length);
        }
        Check.due("at most twelve classes", HamCellar.class.getDeclaredClasses().length < 12, true);
        Check.due("at most twenty fields", fields <= 20, true);
    }

    private static String described(Method method) {
        StringBuilder text = new StringBuilder(method.getReturnType().getName());
        text.append(' ').append(method.getName()).append('(');
        Class<?>[] parameters = method.getParameterTypes();
        for (int i = 0; i < parameters.length; i++) {
            text.append(i == 0 ? "" : ",").append(parameters[i].getName());
        }
        text.append(')');
        Class<?>[] thrown = method.getExceptionTypes();
        for (int i = 0; i < thrown.length; i++) {
            text.append(i == 0 ? " throws " : ",").append(thrown[i].getSimpleName());
        }
        return text.toString();
    }

    private static void source() throws IOException {
        String source = Files.readString(Path.of("src/main/java/HamCellar.java"), StandardCharsets.ISO_8859_1);
        for (int i = 0; i < source.length(); i++) {
            if (source.charAt(i) > 126) {
                Check.due("a sign beyond 126 at " + i, true, false);
            }
        }
        for (String pattern : FORBIDDEN) {
            Check.due("the source has " + pattern, Pattern.compile(pattern).matcher(source).find(), false);
        }
        String[] lines = source.split("\n");
        int begun = -1;
        for (int i = 0; i < lines.length; i++) {
            if (lines[i].startsWith("import ")) {
                boolean listed = lines[i].equals("import java.util.Arrays;")
                        || lines[i].equals("import java.util.NoSuchElementException;");
                Check.due(lines[i], listed, true);
            }
            if (lines[i].matches(" {4}( {4})?\\S.*\\) (throws .*)?\\{")) {
                begun = i;
            }
            if (begun >= 0 && lines[i].matches(" {4}( {4})?\\}")) {
                Check.due("a method of more than sixty lines at " + (begun + 1), i - begun > 60, false);
                begun = -1;
            }
        }
    }
}

import java.io.IOException;
import java.lang.reflect.Constructor;
import java.lang.reflect.Field;
import java.lang.reflect.Method;
import java.lang.reflect.Modifier;
import java.nio.file.Files;
import java.nio.file.Path;
import java.util.ArrayList;
import java.util.Arrays;
import java.util.HashSet;
import java.util.List;
import java.util.Set;
import java.util.TreeSet;
import java.util.regex.Matcher;
import java.util.regex.Pattern;

/** The class's face is the document's, and the source keeps to what of LANGUAGE.md can be seen by its text. */
public final class FaceTest {
    private static final Path SOURCE = Path.of("src/main/java/TurfBog.java");
    private static final String FACE = """
            int feed(int,int,int,int,int)
            boolean end(int)
            int bog() throws IllegalArgumentException,UnsupportedOperationException
            int law() throws IllegalArgumentException
            int fault()
            int cell(int,int) throws IndexOutOfBoundsException,NoSuchElementException
            int hearth(int,int) throws IndexOutOfBoundsException,NoSuchElementException
            int days(int) throws IllegalArgumentException
            int cut(int,int) throws IndexOutOfBoundsException,IllegalStateException
            int foot(int) throws IndexOutOfBoundsException,IllegalStateException
            int cart(int,int) throws IndexOutOfBoundsException,IllegalStateException
            boolean dig(int) throws IndexOutOfBoundsException
            boolean block(int) throws IndexOutOfBoundsException
            boolean right(int,int,boolean) throws IndexOutOfBoundsException
            int trade(int,int,int) throws IndexOutOfBoundsException,IllegalArgumentException,IllegalStateException
            int sky(int,boolean) throws IllegalArgumentException
            int drained()
            int open()
            int net() throws IllegalArgumentException
            int flood()
            int trunks() throws IllegalArgumentException
            int likely() throws IllegalArgumentException
            int probe() throws IllegalArgumentException
            int falls(boolean) throws IllegalArgumentException
            int ask() throws IllegalArgumentException
            int placed(int) throws IndexOutOfBoundsException
            int even()
            boolean last(int)
            int spit(int)
            int hags()
            int hag(int) throws IndexOutOfBoundsException
            int bridges()
            int far(int,int) throws IndexOutOfBoundsException
            int pairs(int) throws IndexOutOfBoundsException
            int rests(int,int) throws IndexOutOfBoundsException,IllegalArgumentException
            int odds(int,int) throws IllegalArgumentException
            int deepest()
            int wettest()
            int richest()
            int cold()
            int twins()
            int waste()
            int staged(int) throws IndexOutOfBoundsException
            int ahead(int,int,int) throws IndexOutOfBoundsException,IllegalArgumentException,NoSuchElementException
            int trial(int,boolean) throws IllegalArgumentException
            int span(int,boolean) throws IllegalArgumentException
            int led(int,boolean) throws IndexOutOfBoundsException
            int log(int,int) throws NoSuchElementException
            int seed(int)
            boolean undo()
            void image()
            boolean back()
            int count(int)
            """;

    public static void main(String[] args) throws IOException {
        face();
        members();
        nested();
        words();
        sizes();
        Check.finish();
    }

    private static void yes(String what, boolean is) {
        Check.due(what, is, true);
    }

    private static String told(Method m) {
        List<String> kinds = new ArrayList<>();
        for (Class<?> kind : m.getParameterTypes()) {
            kinds.add(kind.getSimpleName());
        }
        List<String> thrown = new ArrayList<>();
        for (Class<?> kind : m.getExceptionTypes()) {
            thrown.add(kind.getSimpleName());
        }
        return m.getReturnType().getSimpleName() + " " + m.getName() + "(" + String.join(",", kinds) + ")"
                + (thrown.isEmpty() ? "" : " throws " + String.join(",", thrown));
    }

    private static void face() {
        Set<String> due = new TreeSet<>(Arrays.asList(FACE.strip().split("\n")));
        Set<String> got = new TreeSet<>();
        for (Method m : TurfBog.class.getDeclaredMethods()) {
            if (!Modifier.isPrivate(m.getModifiers())) {
                yes(m + " is public and of objects", Modifier.isPublic(m.getModifiers())
                        && !Modifier.isStatic(m.getModifiers()));
                got.add(told(m));
            }
        }
        for (String one : due) {
            yes("the face has " + one, got.contains(one));
        }
        for (String one : got) {
            yes("the document has " + one, due.contains(one));
        }
        int modifiers = TurfBog.class.getModifiers();
        yes("public and final", Modifier.isPublic(modifiers) && Modifier.isFinal(modifiers));
    }

    private static void members() {
        Set<String> names = new HashSet<>();
        for (Method m : TurfBog.class.getDeclaredMethods()) {
            yes("one method of the name " + m.getName(), names.add(m.getName()));
        }
        for (Field f : TurfBog.class.getDeclaredFields()) {
            yes(f + " is private, or NONE", Modifier.isPrivate(f.getModifiers()) || f.getName().equals("NONE"));
            yes(f + " is final, if it is static", !Modifier.isStatic(f.getModifiers())
                    || Modifier.isFinal(f.getModifiers()));
        }
        for (Constructor<?> c : TurfBog.class.getDeclaredConstructors()) {
            yes(c + " is public, without parameters", Modifier.isPublic(c.getModifiers()) && c.getParameterCount() == 0);
        }
    }

    private static void nested() {
        Class<?>[] inside = TurfBog.class.getDeclaredClasses();
        yes("at most twelve classes", inside.length < 12);
        for (Class<?> one : inside) {
            yes(one + " is static", Modifier.isStatic(one.getModifiers()));
            yes(one + " is not public", !Modifier.isPublic(one.getModifiers()) && !Modifier.isProtected(one.getModifiers()));
            int fields = 0;
            for (Field f : one.getDeclaredFields()) {
                fields += Modifier.isStatic(f.getModifiers()) ? 0 : 1;
            }
            yes(one + " has at most twenty fields", fields <= 20);
            for (Method m : one.getDeclaredMethods()) {
                yes(m + " has a name of its own", !FACE.contains(" " + m.getName() + "("));
                yes(m + " takes at most seven", m.getParameterCount() <= 7);
            }
        }
    }

    private static String code() throws IOException {
        String text = Files.readString(SOURCE);
        return text.replaceAll("(?s)/\\*.*?\\*/", "").replaceAll("//[^\n]*", "");
    }

    private static void words() throws IOException {
        String code = code();
        String[] banned = {"->", "::", "\\bcatch\\b", "\\btry\\b", "\\bfinally\\b", "\\bassert\\b", "\\bsynchronized\\b",
            "\\bprotected\\b", "\\bSystem\\.(?!arraycopy)", "\\bMath\\.\\w*Exact\\b", "\\bObject\\b", "\\bThread\\b",
            "\\bRandom\\b", "\\bMap\\b", "\\bSet\\b", "\\bnumberOf", "\" *\\+", "\\+ *\"", "while *\\(true\\)", "for *\\(;;",
            "\\bequals\\b", "\\bhashCode\\b", "\\btoString\\b", "static *\\{"};
        for (String one : banned) {
            Matcher m = Pattern.compile(one).matcher(code);
            yes("without " + one, !m.find());
        }
        Matcher imports = Pattern.compile("import ([^;]*);").matcher(code);
        while (imports.find()) {
            yes("import " + imports.group(1), Set.of("java.util.Arrays", "java.util.NoSuchElementException")
                    .contains(imports.group(1)));
        }
        yes("no package", !code.contains("package "));
        yes("signs of 1 to 127", Files.readString(SOURCE).chars().allMatch(c -> c > 0 && c < 128));
        Matcher thrown = Pattern.compile("throw ([^;]*);").matcher(code);
        while (thrown.find()) {
            yes(thrown.group(), thrown.group(1).matches("new (IllegalState|IllegalArgument|IndexOutOfBounds|"
                    + "UnsupportedOperation|NoSuchElement)Exception\\(\"[^\"]*\"\\)"));
        }
    }

    /** Methods stand at 4 or 8 blanks and end with a brace there. */
    private static void sizes() throws IOException {
        int begin = -1;
        String blanks = "";
        String[] lines = Files.readString(SOURCE).split("\n");
        for (int i = 0; i < lines.length; i++) {
            Matcher m = Pattern.compile("^( {4}| {8})(?! |.*\\bclass\\b)[^ ].*\\{$").matcher(lines[i]);
            if (m.find()) {
                begin = i;
                blanks = m.group(1);
            } else if (begin >= 0 && lines[i].equals(blanks + "}")) {
                yes("a short method at line " + (begin + 1), i - begin < 60);
                begin = -1;
            }
            yes("line " + (i + 1) + " is at most 120 long", lines[i].length() <= 120);
        }
    }
}

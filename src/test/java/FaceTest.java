import java.io.IOException;
import java.lang.reflect.Constructor;
import java.lang.reflect.Field;
import java.lang.reflect.Method;
import java.lang.reflect.Modifier;
import java.nio.file.Files;
import java.nio.file.Path;
import java.util.Arrays;
import java.util.List;
import java.util.Set;
import java.util.TreeSet;
import java.util.regex.Matcher;
import java.util.regex.Pattern;

/** The class has the document's face and no more, and its text keeps to LANGUAGE.md, as far as a text tells. */
public final class FaceTest {
    static int wrong = 0;

    static final List<String> FACE = List.of(
            "int wall(int)", "int guest(int,int,int,int)", "int say(int)", "int wipe()", "int fault()",
            "int judge(int)", "int done()", "int state(int,int)", "int behind(int,int)", "int height(int)",
            "long load(int,int)", "long strain(int)", "int bulges()", "int touch(int)", "int gaps(int)",
            "int where(int)", "int gate(int,int,int)", "int orders(int)", "int high(int)", "int falls(int)",
            "int key(int)", "int seen(int,int)", "int forget()", "int who(int,int)", "int look(int,int)",
            "long weak(int,int,int)", "int year(int,int,int)", "int image(int)", "int restore(int)", "int told(int)");

    static final List<String> CONSTANTS = List.of("int NONE", "int UNKNOWN", "int OUTSIDE", "int STATE", "int FULL", "int NO", "long LOST");

    static final List<String> FORBIDDEN = List.of(
            "->", "::", "\\bimport\\b", "\\btry\\b", "\\bcatch\\b", "\\bfinally\\b", "\\bassert\\b", "\\bsynchronized\\b",
            "\\bthrows?\\b", "Exact\\b", "\"", "static\\s*\\{", "\\bdouble\\b", "\\bfloat\\b", "\\bpackage\\b", "\\bwhile\\s*\\(true\\)",
            "\\bprotected\\b", "\\bfor\\s*\\(;", "\\bextends\\b", "\\bequals\\b|\\bhashCode\\b|\\btoString\\b");

    static void isSo(boolean so, String what) {
        if (!so) {
            wrong++;
            System.out.println("FaceTest: " + what);
        }
    }

    public static void main(String[] args) throws IOException {
        face();
        nested();
        text();
        System.out.println("FaceTest: " + wrong + " wrong");
        if (wrong != 0) {
            System.exit(1);
        }
    }

    static void face() {
        Class<?> c = GuestStones.class;
        isSo(Modifier.isPublic(c.getModifiers()) && Modifier.isFinal(c.getModifiers()), "the class is public and final");
        Set<String> methods = new TreeSet<>();
        Set<String> names = new TreeSet<>();
        for (Method m : c.getDeclaredMethods()) {
            if (Modifier.isPublic(m.getModifiers())) {
                String types = Arrays.toString(m.getParameterTypes()).replaceAll("[\\[\\] ]", "");
                methods.add(m.getReturnType() + " " + m.getName() + "(" + types + ")");
                names.add(m.getName());
                isSo(!Modifier.isStatic(m.getModifiers()), m.getName() + " is of an object");
            } else {
                isSo(Modifier.isPrivate(m.getModifiers()), m.getName() + " is private");
            }
        }
        isSo(methods.equals(new TreeSet<>(FACE)), "the methods are those of the document: " + methods);
        Set<String> constants = new TreeSet<>();
        for (Field f : c.getDeclaredFields()) {
            if (Modifier.isPublic(f.getModifiers())) {
                constants.add(f.getType() + " " + f.getName());
                isSo(Modifier.isStatic(f.getModifiers()) && Modifier.isFinal(f.getModifiers()), f.getName() + " is a constant");
            } else {
                isSo(Modifier.isPrivate(f.getModifiers()), f.getName() + " is private");
                isSo(!Modifier.isStatic(f.getModifiers()) || Modifier.isFinal(f.getModifiers()), f.getName() + " is no static state");
            }
        }
        isSo(constants.equals(new TreeSet<>(CONSTANTS)), "the constants are those of the document: " + constants);
        Constructor<?>[] made = c.getDeclaredConstructors();
        isSo(made.length == 1 && Modifier.isPublic(made[0].getModifiers()) && made[0].getParameterCount() == 0, "one public constructor");
        for (Class<?> inner : allNested()) {
            for (Method m : inner.getDeclaredMethods()) {
                isSo(!names.contains(m.getName()), inner.getName() + "." + m.getName() + " has a name of the face");
                isSo(m.getParameterCount() <= 7, m.getName() + " takes at most seven");
            }
        }
        for (Method m : c.getDeclaredMethods()) {
            isSo(Modifier.isPublic(m.getModifiers()) || !names.contains(m.getName()), m.getName() + " has a name of the face");
            isSo(m.getParameterCount() <= 7, m.getName() + " takes at most seven");
        }
    }

    static Class<?>[] allNested() {
        return GuestStones.class.getDeclaredClasses();
    }

    static void nested() {
        isSo(allNested().length + 1 <= 12, "at most twelve classes");
        for (Class<?> inner : allNested()) {
            isSo(Modifier.isStatic(inner.getModifiers()) && !Modifier.isPublic(inner.getModifiers()), inner + " is static and not public");
            long fields = Arrays.stream(inner.getDeclaredFields()).filter(f -> !Modifier.isStatic(f.getModifiers())).count();
            isSo(fields <= 20, inner + " has at most twenty fields");
        }
        long fields = Arrays.stream(GuestStones.class.getDeclaredFields()).filter(f -> !Modifier.isStatic(f.getModifiers())).count();
        isSo(fields <= 20, "at most twenty fields");
    }

    static void text() throws IOException {
        String source = Files.readString(Path.of("src/main/java/GuestStones.java"));
        for (int i = 0; i < source.length(); i++) {
            isSo(source.charAt(i) < 127, "a sign beyond 126 at " + i);
        }
        String code = source.replaceAll("(?s)/\\*.*?\\*/", "").replaceAll("//[^\n]*", "");
        for (String word : FORBIDDEN) {
            Matcher m = Pattern.compile(word).matcher(code);
            isSo(!m.find(), "the text has " + word);
        }
        // Every index that is no constant stands behind a test of it, in one of the small functions.
        Matcher index = Pattern.compile("(\\w+)\\[([^\\]]+)\\]").matcher(code);
        Set<String> indexed = new TreeSet<>();
        while (index.find()) {
            if (!index.group(1).equals("new") && !code.substring(Math.max(0, index.start() - 4), index.start()).equals("new ")) {
                indexed.add(index.group());
            }
        }
        isSo(indexed.equals(new TreeSet<>(List.of("row[i]", "cell[below]"))), "indices stand only where they are tested: " + indexed);
        // Methods of at most sixty lines, by the layout of the file.
        String[] lines = source.split("\n");
        int start = -1;
        String indent = "";
        for (int i = 0; i < lines.length; i++) {
            Matcher head = Pattern.compile("^( {4}| {8})\\S.*\\) \\{$").matcher(lines[i]);
            if (start < 0 && head.matches() && !lines[i].matches("^ *(if|for|while|switch|} else).*")) {
                start = i;
                indent = head.group(1);
            } else if (start >= 0 && lines[i].equals(indent + "}")) {
                isSo(i - start < 60, "the method at line " + (start + 1) + " has at most sixty lines");
                start = -1;
            }
        }
        isSo(start < 0, "every method has an end");
    }
}

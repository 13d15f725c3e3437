import java.lang.reflect.Constructor;
import java.lang.reflect.Field;
import java.lang.reflect.Method;
import java.lang.reflect.Modifier;
import java.util.Set;
import java.util.TreeSet;
import java.util.regex.Matcher;
import java.util.regex.Pattern;

/** The public face, and what of LANGUAGE.md a look at the class and at its text can tell. */
public final class FaceTest {
    private static final Set<String> METHODS = Set.of(
        "int letter(int)", "int blank()", "int fault()", "int text()", "int row(int,int,int)", "int pad(int,int,int)",
        "int as(int,int,int)", "int frame(int,int)", "int register(int)", "int call(int)", "int go(int)",
        "int set(int,int)", "int back()", "int raise(int)", "int change(int,int,int)", "int undo()",
        "int search(int,int)", "int loose()", "int finished(int)", "int same(int,int)", "int see(int,int,int,int)",
        "int forget()", "int drawn(int,int,int)", "int image()", "int restore()", "int count(int)", "long digest()");

    public static void main(String[] args) {
        String source = Document.read(args.length > 0 ? args[0] : "src/main/java/RowUnwinder.java");
        testConstants();
        testMembers();
        testClassesInside();
        testDeclarations(source);
        testSource(source);
        Due.end("FaceTest");
    }

    private static void testConstants() {
        Due.is("NONE", RowUnwinder.NONE, -1);
        Due.is("UNKNOWN", RowUnwinder.UNKNOWN, -101);
        Due.is("OUTSIDE", RowUnwinder.OUTSIDE, -102);
        Due.is("STATE", RowUnwinder.STATE, -103);
        Due.is("FULL", RowUnwinder.FULL, -104);
    }

    /** Word by word as the document has them, the names of the parameters too. */
    private static void testDeclarations(String source) {
        for (String declaration : Document.face()) {
            boolean isThere = source.contains("\n    " + declaration + (declaration.contains("(") ? " {\n" : ";\n"));
            Due.is("whether the class has '" + declaration + "'", isThere ? 1 : 0, 1);
        }
        Due.is("declarations of the document", Document.face().size(), 29);
    }

    private static void testMembers() {
        Class<?> face = RowUnwinder.class;
        Due.is("a public final class", face.getModifiers() & (Modifier.PUBLIC | Modifier.FINAL), Modifier.PUBLIC | Modifier.FINAL);
        Set<String> found = new TreeSet<>();
        Set<String> privates = new TreeSet<>();
        for (Method method : face.getDeclaredMethods()) {
            Due.is(method + " has at most seven parameters", method.getParameterCount() <= 7 ? 1 : 0, 1);
            if (Modifier.isPublic(method.getModifiers())) {
                found.add(signature(method));
            } else {
                Due.is(method + " is private", method.getModifiers() & Modifier.PRIVATE, Modifier.PRIVATE);
                privates.add(method.getName());
            }
        }
        Due.is("the methods " + found, found.equals(METHODS) ? 1 : 0, 1);
        for (Method method : face.getDeclaredMethods()) {
            if (Modifier.isPublic(method.getModifiers())) {
                Due.is("no private method is called " + method.getName(), privates.contains(method.getName()) ? 1 : 0, 0);
            }
        }
        int constants = 0;
        for (Field field : face.getDeclaredFields()) {
            if (Modifier.isPublic(field.getModifiers())) {
                constants++;
            } else {
                Due.is(field + " is private", field.getModifiers() & Modifier.PRIVATE, Modifier.PRIVATE);
            }
        }
        Due.is("public constants", constants, 5);
        Constructor<?>[] constructors = face.getDeclaredConstructors();
        Due.is("constructors", constructors.length, 1);
        Due.is("the constructor's parameters", constructors[0].getParameterCount(), 0);
        Due.is("the constructor is public", constructors[0].getModifiers() & Modifier.PUBLIC, Modifier.PUBLIC);
    }

    private static String signature(Method method) {
        StringBuilder text = new StringBuilder(method.getReturnType().getName()).append(' ').append(method.getName()).append('(');
        String between = "";
        for (Class<?> parameter : method.getParameterTypes()) {
            text.append(between).append(parameter.getName());
            between = ",";
        }
        return text.append(')').toString();
    }

    private static void testClassesInside() {
        Class<?>[] inside = RowUnwinder.class.getDeclaredClasses();
        Due.is("at most twelve classes", inside.length < 12 ? 1 : 0, 1);
        for (Class<?> one : inside) {
            Due.is(one + " is static", one.getModifiers() & Modifier.STATIC, Modifier.STATIC);
            Due.is(one + " is not public", one.getModifiers() & (Modifier.PUBLIC | Modifier.PROTECTED), 0);
            int fields = 0;
            for (Field field : one.getDeclaredFields()) {
                boolean isStatic = Modifier.isStatic(field.getModifiers());
                Due.is(field + " is final where it is static", !isStatic || Modifier.isFinal(field.getModifiers()) ? 1 : 0, 1);
                fields += isStatic ? 0 : 1;
            }
            Due.is(one + " has at most twenty fields", fields <= 20 ? 1 : 0, 1);
            testMethodsInside(one);
        }
    }

    private static void testMethodsInside(Class<?> inside) {
        for (Method method : inside.getDeclaredMethods()) {
            Due.is(method + " has at most seven parameters", method.getParameterCount() <= 7 ? 1 : 0, 1);
            boolean isCalledAsACall = METHODS.stream().anyMatch(call -> call.contains(" " + method.getName() + "("));
            Due.is(method + " is called otherwise than the calls", isCalledAsACall ? 1 : 0, 0);
        }
    }

    private static void testSource(String source) {
        String bare = source.replaceAll("(?s)/\\*.*?\\*/", "").replaceAll("//[^\n]*", "").replaceAll("'[^'\n]'", "0");
        String[] forbidden = {"\\bthrow\\b", "\\btry\\b", "\\bcatch\\b", "\\bsynchronized\\b", "\\bassert\\b", "->", "::",
            "\\bpackage\\b", "\\bgoto\\b", "\"", "\\bSystem\\.(?!arraycopy\\b)", "\\bObject\\b", "\\bequals\\b", "\\bhashCode\\b",
            "\\btoString\\b", "Exact\\b", "\\bRandom\\b", "\\bThread\\b", "\\bvar\\b"};
        for (String one : forbidden) {
            Matcher matcher = Pattern.compile(one).matcher(bare);
            Due.is("the source has " + one, matcher.find() ? 1 : 0, 0);
        }
        Matcher imports = Pattern.compile("(?m)^import (.*);$").matcher(bare);
        while (imports.find()) {
            Due.is("import " + imports.group(1), imports.group(1).equals("java.util.Arrays") ? 1 : 0, 1);
        }
        testMethodLengths(source);
    }

    private static void testMethodLengths(String source) {
        String[] lines = source.split("\n");
        int start = -1;
        String indent = "";
        for (int line = 0; line < lines.length; line++) {
            boolean opens = lines[line].matches("( {4}| {8})[a-zA-Z].*\\) \\{");
            if (opens) {
                start = line;
                indent = lines[line].substring(0, lines[line].length() - lines[line].stripLeading().length());
            } else if (start >= 0 && lines[line].equals(indent + "}")) {
                Due.is("line " + (start + 1) + ": a method of at most sixty lines", line - start < 60 ? 1 : 0, 1);
                start = -1;
            }
        }
    }
}

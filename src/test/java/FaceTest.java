import java.io.IOException;
import java.lang.reflect.Constructor;
import java.lang.reflect.Field;
import java.lang.reflect.Method;
import java.lang.reflect.Modifier;
import java.nio.file.Files;
import java.nio.file.Path;
import java.util.ArrayList;
import java.util.Arrays;
import java.util.List;
import java.util.TreeSet;
import java.util.regex.Matcher;
import java.util.regex.Pattern;

/** The class's face is the document's, and its text keeps to what can be seen of the language. */
public final class FaceTest {
    private static final Due DUE = new Due("FaceTest");
    private static final String[] METHODS = {"int row(int,int,int)", "int set(int,int,long)",
        "int copy(int,int,int,int,int)", "long element(int,int)", "int show(int,int)",
        "int holds(int)", "int says(int,int)", "int thing(int,int)",
        "int happening(int,int,boolean)", "int fault()", "int price(int,int)",
        "int weigh(int,int)", "int seen(int,int,int)", "int span(int,int,int,boolean,int)",
        "int was(int,int,int,int,int)", "int sheet(int,int,int,int)", "int by(int,boolean)",
        "int pieceOf(int,int)", "int least()", "long courses()", "int is(int,int)",
        "int value(int,int)", "int why(int,int)", "int quarrel()", "int out()",
        "int must(int,int,int)", "int could(int)", "int ever(int,int,int)",
        "int howLong(int,int,int)", "int since(int,int)", "int plan(int,int,int)",
        "int seemed(int,int,int,int)", "int act(int,int,int)", "int trace(int)", "int image()",
        "int restore()", "int status(int)"};

    public static void main(String[] args) throws IOException {
        face();
        nested();
        text(Files.readString(Path.of("src/main/java/SoWhen.java")));
        DUE.end();
    }

    private static void yes(String what, boolean is) {
        DUE.is(what, is ? 1 : 0, 1);
    }

    private static void face() {
        TreeSet<String> names = new TreeSet<>();
        TreeSet<String> found = new TreeSet<>();
        for (Method m : SoWhen.class.getDeclaredMethods()) {
            if (Modifier.isPrivate(m.getModifiers())) {
                names.add(m.getName());
                continue;
            }
            StringBuilder text = new StringBuilder(m.getReturnType() + " " + m.getName() + "(");
            for (Class<?> c : m.getParameterTypes()) {
                text.append(text.charAt(text.length() - 1) == '(' ? "" : ",").append(c);
            }
            found.add(text + ")");
            yes(m + " is public", m.getModifiers() == Modifier.PUBLIC);
        }
        TreeSet<String> wanted = new TreeSet<>(Arrays.asList(METHODS));
        yes("the methods " + found, found.equals(wanted));
        for (String method : METHODS) {
            String name = method.substring(method.indexOf(' ') + 1, method.indexOf('('));
            yes("no private method is " + name, !names.contains(name));
        }
        for (Field f : SoWhen.class.getDeclaredFields()) {
            yes(f + " is private", Modifier.isPrivate(f.getModifiers()) != f.getName().equals("NONE"));
            yes(f + " is final", !Modifier.isStatic(f.getModifiers())
                    || Modifier.isFinal(f.getModifiers()));
        }
        Constructor<?>[] made = SoWhen.class.getDeclaredConstructors();
        DUE.is("constructors", made.length, 1);
        DUE.is("its parameters", made[0].getParameterCount(), 0);
        yes("the class is public and final",
                SoWhen.class.getModifiers() == (Modifier.PUBLIC | Modifier.FINAL));
    }

    private static void nested() {
        TreeSet<String> face = new TreeSet<>();
        for (String method : METHODS) {
            face.add(method.substring(method.indexOf(' ') + 1, method.indexOf('(')));
        }
        Class<?>[] classes = SoWhen.class.getDeclaredClasses();
        yes("some twelve classes", classes.length + 1 <= 12);
        for (Class<?> c : classes) {
            yes(c + " is static", Modifier.isStatic(c.getModifiers()));
            yes(c + " is not public", !Modifier.isPublic(c.getModifiers()));
            int fields = 0;
            for (Field f : c.getDeclaredFields()) {
                fields += Modifier.isStatic(f.getModifiers()) ? 0 : 1;
                yes(f + " is final", !Modifier.isStatic(f.getModifiers())
                        || Modifier.isFinal(f.getModifiers()));
            }
            yes(c + " has some twenty fields", fields <= 20);
            for (Method m : c.getDeclaredMethods()) {
                yes(m + " bears no name of the face", !face.contains(m.getName()));
                yes(m + " has few parameters", m.getParameterCount() <= 7);
            }
        }
    }

    private static void text(String source) {
        String code = source.replaceAll("(?s)/\\*.*?\\*/", " ").replaceAll("//[^\n]*", " ")
                .replaceAll("'\\\\?.'", "' '");
        String[] words = {"throw", "throws", "try", "catch", "finally", "synchronized", "assert",
            "yield", "var", "enum", "record", "sealed", "equals", "hashCode", "toString", "->",
            "::", "System.currentTimeMillis", "System.nanoTime", "Random", "Thread", "Object",
            "String", "\"", "@", "Exact", "static {"};
        for (String word : words) {
            boolean letters = Character.isLetter(word.charAt(0));
            Pattern p = Pattern.compile(letters ? "\\b" + Pattern.quote(word) + "\\b"
                    : Pattern.quote(word));
            yes("no " + word, !p.matcher(code).find());
        }
        for (int i = 0; i < source.length(); i++) {
            char c = source.charAt(i);
            if (c > 126 || c < 32 && c != '\n') {
                yes("a plain sign at " + i, false);
            }
        }
        List<String> imports = new ArrayList<>();
        Matcher m = Pattern.compile("import ([^;]*);").matcher(code);
        while (m.find()) {
            imports.add(m.group(1));
        }
        yes("imports " + imports, imports.equals(List.of("java.util.Arrays")));
        yes("no package", !Pattern.compile("(?m)^package ").matcher(code).find());
        methodLengths(code);
    }

    /** Methods of the class stand four blanks in, those of classes inside it eight. */
    private static void methodLengths(String code) {
        String[] lines = code.split("\n");
        for (int i = 0; i < lines.length; i++) {
            String in = lines[i].startsWith("        ") ? "        " : "    ";
            if (!lines[i].matches("( {4}| {8})\\S.*\\) \\{") || lines[i].contains(" class ")) {
                continue;
            }
            int end = i;
            while (end < lines.length && !lines[end].equals(in + "}")) {
                end++;
            }
            yes(lines[i].trim() + " is short", end - i < 60);
        }
    }
}

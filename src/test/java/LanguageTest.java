import java.io.IOException;
import java.lang.reflect.Constructor;
import java.lang.reflect.Field;
import java.lang.reflect.Method;
import java.lang.reflect.Modifier;
import java.nio.file.Files;
import java.nio.file.Path;
import java.util.Set;
import java.util.TreeSet;
import java.util.regex.Matcher;
import java.util.regex.Pattern;

/** The face of the document and those rules of LANGUAGE.md that can be seen from the text or the class. */
public final class LanguageTest {
    private static final Path SOURCE = Path.of("src/main/java/BidsJudged.java");
    private static final Path DOCUMENT = Path.of("../shared/DOC.md");
    private static final Set<String> FACE = new TreeSet<>();

    public static void main(String[] args) throws IOException {
        face();
        words();
        members(BidsJudged.class);
        Class<?>[] inside = BidsJudged.class.getDeclaredClasses();
        Check.due("11: at most some twelve classes", inside.length <= 11);
        for (Class<?> c : inside) {
            Check.due("2: static: " + c, Modifier.isStatic(c.getModifiers()) && !Modifier.isPublic(c.getModifiers()));
            members(c);
        }
        Check.end("LanguageTest");
    }

    /** Types and names of the document's face against those of the class. */
    private static void face() throws IOException {
        Set<String> want = new TreeSet<>();
        Matcher line = Pattern.compile("^    public (int|long) (\\w+)\\((.*)\\);$", Pattern.MULTILINE)
            .matcher(Files.readString(DOCUMENT));
        while (line.find()) {
            String types = line.group(3).replaceAll("(int|long|boolean) \\w+", "$1").replace(" ", "");
            want.add(line.group(1) + " " + line.group(2) + "(" + types + ")");
            FACE.add(line.group(2));
        }
        Check.due("the document has 39 methods", want.size(), 39);
        Set<String> got = new TreeSet<>();
        for (Method method : BidsJudged.class.getDeclaredMethods()) {
            if (Modifier.isPublic(method.getModifiers())) {
                StringBuilder types = new StringBuilder();
                for (Class<?> type : method.getParameterTypes()) {
                    types.append(types.length() == 0 ? "" : ",").append(type);
                }
                got.add(method.getReturnType() + " " + method.getName() + "(" + types + ")");
            }
        }
        Check.due("1: face " + got, got.equals(want));
        Constructor<?>[] made = BidsJudged.class.getDeclaredConstructors();
        Check.due("1: one constructor", made.length == 1 && made[0].getParameterCount() == 0);
        Check.due("1: public and final", BidsJudged.class.getModifiers(), Modifier.PUBLIC | Modifier.FINAL);
    }

    private static void members(Class<?> c) {
        int fields = 0;
        for (Field field : c.getDeclaredFields()) {
            boolean isStatic = Modifier.isStatic(field.getModifiers());
            fields += isStatic ? 0 : 1;
            Check.due("5: final: " + field, !isStatic || Modifier.isFinal(field.getModifiers()));
            Check.due("1: private: " + field, c != BidsJudged.class || Modifier.isPrivate(field.getModifiers()));
        }
        Check.due("11: some twenty fields: " + c, fields <= 20);
        for (Method method : c.getDeclaredMethods()) {
            boolean isFace = c == BidsJudged.class && Modifier.isPublic(method.getModifiers());
            if (!isFace && !method.isSynthetic()) {
                Check.due("1: a name of the face: " + method, !FACE.contains(method.getName()));
                Check.due("11: seven parameters: " + method, method.getParameterCount() <= 7);
                Check.due("1: private: " + method,
                    c != BidsJudged.class || Modifier.isPrivate(method.getModifiers()));
            }
        }
    }

    private static void words() throws IOException {
        String text = Files.readString(SOURCE);
        String code = text.replaceAll("(?s)/\\*.*?\\*/", "").replaceAll("//.*", "");
        String[] ruledOut = {"\\bthrow\\b", "\\bthrows\\b", "\\btry\\b", "\\bcatch\\b", "\\bsynchronized\\b",
            "\\bassert\\b", "->", "::", "\\bpackage\\b", "\\bSystem\\.(?!arraycopy)", "Exact\\(", "\\bObject\\b",
            "\\bhashCode\\b", "\\bequals\\b", "\\btoString\\b", "\\bdouble\\b", "\\bfloat\\b", "\"", "\\bprotected\\b",
            "static\\s*\\{", "\\bnative\\b", "\\bvolatile\\b", "\\bThread\\b", "\\bRandom\\b"};
        for (String word : ruledOut) {
            Check.due("ruled out: " + word, !Pattern.compile(word).matcher(code).find());
        }
        Matcher imported = Pattern.compile("^import (.*);", Pattern.MULTILINE).matcher(code);
        while (imported.find()) {
            Check.due("4: import " + imported.group(1), imported.group(1).equals("java.util.Arrays"));
        }
        int from = 0;
        int number = 0;
        for (String line : text.split("\n")) {
            number++;
            if (line.matches("( {4}| {8})\\S.*\\) \\{")) {
                from = number;
            }
            if (line.matches("( {4}| {8})\\}")) {
                Check.due("11: short methods, at line " + from, number - from <= 60 || from == 0);
                from = 0;
            }
            Check.due("4: signs 1 to 127, at line " + number, line.chars().allMatch(sign -> sign > 0 && sign < 128));
        }
    }
}

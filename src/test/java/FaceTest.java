import java.io.IOException;
import java.lang.reflect.Constructor;
import java.lang.reflect.Executable;
import java.lang.reflect.Field;
import java.lang.reflect.Method;
import java.lang.reflect.Modifier;
import java.nio.file.Files;
import java.nio.file.Path;
import java.util.ArrayList;
import java.util.Arrays;
import java.util.HashSet;
import java.util.List;
import java.util.Set;
import java.util.TreeSet;
import java.util.regex.Matcher;
import java.util.regex.Pattern;

/** The public face as the document writes it out, and what of LANGUAGE.md can be seen without reading the code. */
public final class FaceTest {
    private static final Path PROGRAM = Path.of("src/main/java/HiringHall.java");
    private static final Path DOCUMENT = Path.of("../shared/DOC.md");

    private FaceTest() {
    }

    public static void main(String[] args) throws IOException {
        faceIsThatOfTheDocument();
        nothingElseIsSeen();
        privateNamesAreOthers();
        classesInsideAreFew();
        wordsThatAreRuledOut();
        Check.end("FaceTest");
    }

    private static void faceIsThatOfTheDocument() throws IOException {
        Set<String> want = new TreeSet<>();
        Matcher lines = Pattern.compile("(?m)^    public (?!static)(.*);$").matcher(Files.readString(DOCUMENT));
        while (lines.find()) {
            want.add(lines.group(1).replaceAll("\\b(int|boolean) \\w+(?=[,)])", "$1").replace("java.util.", ""));
        }
        Set<String> got = new TreeSet<>();
        for (Constructor<?> constructor : HiringHall.class.getConstructors()) {
            got.add(told("HiringHall", constructor));
        }
        for (Method method : HiringHall.class.getDeclaredMethods()) {
            if (Modifier.isPublic(method.getModifiers())) {
                got.add(told(method.getReturnType().getSimpleName() + " " + method.getName(), method));
            }
        }
        Check.due("the document has a constructor and 26 methods at least", true, want.size() >= 27);
        Check.due("the face", String.join("\n", want), String.join("\n", got));
        Check.due("the class is public and final", "public final",
                Modifier.toString(HiringHall.class.getModifiers()));
    }

    private static String told(String name, Executable member) {
        List<String> types = new ArrayList<>();
        for (Class<?> type : member.getParameterTypes()) {
            types.add(type.getSimpleName());
        }
        List<String> exceptions = new ArrayList<>();
        for (Class<?> type : member.getExceptionTypes()) {
            exceptions.add(type.getSimpleName());
        }
        String clause = exceptions.isEmpty() ? "" : " throws " + String.join(", ", exceptions);
        return name + "(" + String.join(", ", types) + ")" + clause;
    }

    private static void nothingElseIsSeen() {
        for (Field field : HiringHall.class.getDeclaredFields()) {
            boolean isConstant = field.getName().equals("NONE");
            Check.due("field " + field.getName(), isConstant ? "public static final" : "private",
                    isConstant ? Modifier.toString(field.getModifiers())
                            : Modifier.toString(field.getModifiers() & Modifier.PRIVATE));
            Check.due("static fields are final: " + field.getName(), Modifier.isStatic(field.getModifiers()),
                    Modifier.isStatic(field.getModifiers()) && Modifier.isFinal(field.getModifiers()));
        }
        for (Method method : HiringHall.class.getDeclaredMethods()) {
            int seen = method.getModifiers() & (Modifier.PUBLIC | Modifier.PRIVATE);
            Check.due("method " + method.getName() + " is public or private", true, seen != 0);
        }
    }

    private static void privateNamesAreOthers() {
        Set<String> face = new HashSet<>();
        for (Method method : HiringHall.class.getDeclaredMethods()) {
            if (Modifier.isPublic(method.getModifiers())) {
                face.add(method.getName());
            }
        }
        for (Method method : HiringHall.class.getDeclaredMethods()) {
            if (!Modifier.isPublic(method.getModifiers())) {
                Check.due("the name of a public method: " + method.getName(), false, face.contains(method.getName()));
            }
        }
    }

    private static void classesInsideAreFew() {
        Class<?>[] inside = HiringHall.class.getDeclaredClasses();
        Check.due("at most some twelve classes", true, inside.length < 12);
        for (Class<?> type : inside) {
            Check.due(type.getSimpleName() + " is not for others", 0,
                    type.getModifiers() & (Modifier.PUBLIC | Modifier.PROTECTED));
            Check.due(type.getSimpleName() + " is static", true, Modifier.isStatic(type.getModifiers()));
            long fields = Arrays.stream(type.getDeclaredFields()).filter(f -> !Modifier.isStatic(f.getModifiers()))
                    .count();
            Check.due(type.getSimpleName() + " has at most some twenty fields", true, fields <= 20);
        }
    }

    private static void wordsThatAreRuledOut() throws IOException {
        String text = Files.readString(PROGRAM);
        String code = text.replaceAll("(?s)/\\*.*?\\*/", "").replaceAll("//.*", "");
        String[] ruledOut = {"->", "::", "\\btry\\b", "\\bcatch\\b", "\\bfinally\\b", "\\bsynchronized\\b",
            "\\bassert\\b", "\\bpackage\\b", "Exact\\b", "\\bcurrentTimeMillis\\b", "\\bRandom\\b", "\\bThread\\b",
            "\\bequals\\(", "\\bhashCode\\(", "\\btoString\\(", "\\bMap\\b", "\\bSet\\b", "\\bstatic \\{"};
        for (String word : ruledOut) {
            Check.due("the program uses " + word, false, Pattern.compile(word).matcher(code).find());
        }
        Matcher imports = Pattern.compile("(?m)^import (.*);$").matcher(code);
        while (imports.find()) {
            Check.due("import of " + imports.group(1), true,
                    imports.group(1).matches("java\\.util\\.(ArrayList|NoSuchElementException)"));
        }
        Check.due("plain signs alone", true, text.chars().allMatch(sign -> sign > 0 && sign < 128));
    }
}

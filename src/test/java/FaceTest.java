import java.io.IOException;
import java.lang.reflect.Constructor;
import java.lang.reflect.Executable;
import java.lang.reflect.Field;
import java.lang.reflect.Method;
import java.lang.reflect.Modifier;
import java.nio.file.Files;
import java.nio.file.Path;
import java.util.ArrayList;
import java.util.List;
import java.util.Set;
import java.util.TreeSet;
import java.util.regex.Matcher;
import java.util.regex.Pattern;

/** The public face as the document writes it out, and nothing beside it. */
public final class FaceTest {
    private static final Path PROGRAM = Path.of("src/main/java/HiringHall.java");

    private FaceTest() {
    }

    public static void main(String[] args) throws IOException {
        faceIsThatOfTheDocument();
        nothingElseIsSeen();
        headingsAreThoseOfTheDocument();
        Check.end("FaceTest");
    }

    private static void faceIsThatOfTheDocument() throws IOException {
        Set<String> want = new TreeSet<>();
        Matcher lines = Pattern.compile("(?m)^    public (?!static)(.*);$").matcher(Document.text());
        while (lines.find()) {
            want.add(lines.group(1).replaceAll("\\b(int|boolean) \\w+(?=[,)])", "$1").replace("java.util.", ""));
        }
        Set<String> got = new TreeSet<>();
        for (Constructor<?> constructor : HiringHall.class.getConstructors()) {
            got.add(told("HiringHall", constructor));
        }
        for (Method method : HiringHall.class.getDeclaredMethods()) {
            if (Modifier.isPublic(method.getModifiers())) {
                got.add(told(method.getReturnType().getSimpleName() + " " + method.getName(), method));
            }
        }
        Check.due("the document has a constructor and 26 methods at least", true, want.size() >= 27);
        Check.due("the face", String.join("\n", want), String.join("\n", got));
        Check.due("the class is public and final", "public final",
                Modifier.toString(HiringHall.class.getModifiers()));
    }

    private static String told(String name, Executable member) {
        List<String> types = new ArrayList<>();
        for (Class<?> type : member.getParameterTypes()) {
            types.add(type.getSimpleName());
        }
        List<String> exceptions = new ArrayList<>();
        for (Class<?> type : member.getExceptionTypes()) {
            exceptions.add(type.getSimpleName());
        }
        String clause = exceptions.isEmpty() ? "" : " throws " + String.join(", ", exceptions);
        return name + "(" + String.join(", ", types) + ")" + clause;
    }

    private static void nothingElseIsSeen() {
        for (Field field : HiringHall.class.getDeclaredFields()) {
            boolean isConstant = field.getName().equals("NONE");
            Check.due("field " + field.getName(), isConstant ? "public static final" : "private",
                    isConstant ? Modifier.toString(field.getModifiers())
                            : Modifier.toString(field.getModifiers() & Modifier.PRIVATE));
        }
        for (Method method : HiringHall.class.getDeclaredMethods()) {
            int seen = method.getModifiers() & (Modifier.PUBLIC | Modifier.PRIVATE);
            Check.due("method " + method.getName() + " is public or private", true, seen != 0);
        }
        for (Class<?> type : HiringHall.class.getDeclaredClasses()) {
            int seen = type.getModifiers() & (Modifier.PUBLIC | Modifier.PROTECTED);
            Check.due("class " + type.getSimpleName() + " is not for others", 0, seen);
        }
    }

    /** What the interface says ahead of calls stands in the program ahead of those calls, in the same order. */
    private static void headingsAreThoseOfTheDocument() throws IOException {
        String program = Files.readString(PROGRAM);
        Matcher headings = Pattern.compile("(?m)^Ahead of the calls (.*) the interface says: (.*)\\.$")
                .matcher(Document.text());
        int found = 0;
        while (headings.find()) {
            found++;
            String heading = "\n    // " + headings.group(2) + "\n";
            Check.due("the heading " + headings.group(2), true, program.contains(heading));
            String part = program.substring(program.indexOf(heading) + heading.length()).split("\n    // ----")[0];
            Check.due("the calls behind " + headings.group(2), headings.group(1).replace("`", ""),
                    String.join(", ", publicMethods(part)));
        }
        Check.due("the document tells headings", 3, found);
    }

    private static List<String> publicMethods(String part) {
        List<String> names = new ArrayList<>();
        Matcher methods = Pattern.compile("(?m)^    public \\w+ (\\w+)\\(").matcher(part);
        while (methods.find()) {
            names.add(methods.group(1));
        }
        return names;
    }
}

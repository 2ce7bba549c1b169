import java.io.IOException;
import java.lang.reflect.Constructor;
import java.lang.reflect.Field;
import java.lang.reflect.Method;
import java.lang.reflect.Modifier;
import java.nio.file.Files;
import java.nio.file.Path;
import java.util.ArrayList;
import java.util.Arrays;
import java.util.List;
import java.util.regex.Matcher;
import java.util.regex.Pattern;

/** The public face, and those rules of LANGUAGE.md that can be seen by looking through the file. */
final class FaceTest {
    private static final String[] FACE = {
        "int sort(int,int,int,int,int,int,int)", "int price(int,int,int)", "int at(int,int)", "int within(int,int)",
        "int bale(int,int,int,int)", "int open(int,int,int,int,int,int)", "int of(int,int)",
        "int look(int,int,int,int,int)", "int as(int)", "int off(int,int)", "int due(int)", "int sign(int)",
        "boolean end(int)", "int text(int,int)", "int pay(int)", "int store(int,int)", "int fire(int)", "int moth(int)",
        "int wipe(int,int,int)", "int split(int,int) throws java.util.NoSuchElementException", "int part(int,int)",
        "int judge(int)", "int cost(int)", "int mix(int,int,int,int)", "int make(int)", "int led(int)",
        "int fault(int,int)", "int suspects()", "int foretell(int,int,int)", "int twice(int,int,int,int)", "int eye(int)",
        "int met(int,int)", "int called(int,int)", "int ring(int)",
        "int wish(int,int,int) throws java.util.NoSuchElementException", "int takes(int,int)",
        "int pack(int,int,int,int)", "int gives(int,int)", "int share()", "int count(int)",
        "int row(int) throws java.util.NoSuchElementException"};

    public static void main(String[] args) throws IOException {
        face();
        members();
        fields();
        source();
        Check.finish();
    }

    private static void face() {
        List<String> want = new ArrayList<>();
        for (String each : FACE) {
            want.add("public " + each.replaceFirst(" ", " RagTown."));
        }
        for (Method method : RagTown.class.getDeclaredMethods()) {
            boolean inFace = want.remove(method.toString());
            Check.yes("a private method or one of the face: " + method,
                inFace || Modifier.isPrivate(method.getModifiers()));
        }
        Check.is("missing " + want, want.size(), 0);
        Constructor<?>[] constructors = RagTown.class.getDeclaredConstructors();
        Check.is("constructors", constructors.length, 1);
        Check.yes("public RagTown()", constructors[0].toString().equals("public RagTown()"));
        Check.yes("public final class", RagTown.class.getModifiers() == (Modifier.PUBLIC | Modifier.FINAL));
    }

    /** No private method, of the classes inside too, bears the name of a public one. */
    private static void members() {
        List<String> names = new ArrayList<>();
        for (String each : FACE) {
            names.add(each.substring(each.indexOf(' ') + 1, each.indexOf('(')));
        }
        Class<?>[] inside = RagTown.class.getDeclaredClasses();
        Check.yes("some twelve classes", inside.length + 1 <= 12);
        for (Class<?> each : inside) {
            Check.yes("static " + each, Modifier.isStatic(each.getModifiers()));
            Check.no("public " + each, Modifier.isPublic(each.getModifiers()));
            for (Method method : each.getDeclaredMethods()) {
                Check.no("a name of the face: " + method, names.contains(method.getName()));
                Check.yes("at most seven parameters: " + method, method.getParameterCount() <= 7);
            }
        }
        for (Method method : RagTown.class.getDeclaredMethods()) {
            Check.no("a name of the face: " + method,
                Modifier.isPrivate(method.getModifiers()) && names.contains(method.getName()));
        }
    }

    private static void fields() {
        List<Class<?>> all = new ArrayList<>(Arrays.asList(RagTown.class.getDeclaredClasses()));
        all.add(RagTown.class);
        for (Class<?> each : all) {
            int own = 0;
            for (Field field : each.getDeclaredFields()) {
                boolean constant = Modifier.isStatic(field.getModifiers());
                Check.yes("a static field is final: " + field, !constant || Modifier.isFinal(field.getModifiers()));
                own += constant ? 0 : 1;
                if (each == RagTown.class && !field.getName().equals("NONE")) {
                    Check.yes("private: " + field, Modifier.isPrivate(field.getModifiers()));
                }
            }
            Check.yes("some twenty fields of " + each + ": " + own, own <= 20);
        }
    }

    private static void source() throws IOException {
        String source = Files.readString(Path.of("src/main/java/RagTown.java"));
        String code = source.replaceAll("(?s)/\\*.*?\\*/", "").replaceAll("//[^\n]*", "");
        for (String banned : new String[] {"->", "::", "\\bcatch\\b", "\\bfinally\\b", "\\bassert\\b", "\\bsynchronized\\b",
            "Exact\\(", "\\bdouble\\b", "\\bfloat\\b", "\"", "\\bpackage\\b", "\\bSystem\\.(?!arraycopy)", "\\bnull\\b"}) {
            Check.no("stands in the program: " + banned, Pattern.compile(banned).matcher(code).find());
        }
        Matcher imports = Pattern.compile("import [^;]*;").matcher(code);
        while (imports.find()) {
            Check.yes(imports.group(), imports.group().equals("import java.util.Arrays;")
                || imports.group().equals("import java.util.NoSuchElementException;"));
        }
        Matcher thrown = Pattern.compile("throw [^;]*;").matcher(code);
        while (thrown.find()) {
            Check.yes(thrown.group(), thrown.group().equals("throw new NoSuchElementException();"));
        }
        Check.yes("signs 0 to 127", source.chars().allMatch(c -> c < 128));
    }
}

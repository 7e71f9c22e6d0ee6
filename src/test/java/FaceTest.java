import java.lang.reflect.Constructor;
import java.lang.reflect.Executable;
import java.lang.reflect.Field;
import java.lang.reflect.Method;
import java.lang.reflect.Modifier;
import java.nio.charset.StandardCharsets;
import java.nio.file.Files;
import java.nio.file.Path;
import java.util.ArrayList;
import java.util.Arrays;
import java.util.HashSet;
import java.util.List;
import java.util.Set;
import java.util.TreeSet;
import java.util.regex.Pattern;

/** The public face of the class, and the rules of LANGUAGE.md that a look at the class or its text shows. */
public final class FaceTest {
    private static final String[] FACE = {
        "int grid(int,int) throws IllegalArgumentException,UnsupportedOperationException",
        "int view(int,int,int,int,int,int,boolean) throws"
            + " IndexOutOfBoundsException,IllegalArgumentException,UnsupportedOperationException",
        "boolean close(int,boolean) throws IndexOutOfBoundsException",
        "int size(int,boolean) throws IndexOutOfBoundsException",
        "boolean set(int,int,int,int) throws IndexOutOfBoundsException",
        "boolean dig(int,int,int) throws IndexOutOfBoundsException",
        "int fill(int,int,int,int,int,int) throws IndexOutOfBoundsException,IllegalArgumentException",
        "boolean hole(int,int,int) throws IndexOutOfBoundsException",
        "int get(int,int,int) throws IndexOutOfBoundsException,NoSuchElementException",
        "int kind(int,int,int) throws IndexOutOfBoundsException",
        "int keep(int) throws IndexOutOfBoundsException",
        "int back(int,int) throws IndexOutOfBoundsException",
        "int was(int,int,int,int) throws IndexOutOfBoundsException,NoSuchElementException",
        "int differ(int,int,int) throws IndexOutOfBoundsException",
        "boolean lose(int,boolean) throws IndexOutOfBoundsException",
        "long sum(int,int,int,int) throws IndexOutOfBoundsException,IllegalArgumentException",
        "int many(int,int,int,int) throws IndexOutOfBoundsException,IllegalArgumentException",
        "int find(int,int) throws IndexOutOfBoundsException",
        "int slide(int,int,int) throws IndexOutOfBoundsException,IllegalArgumentException",
        "int fold(int,boolean,int) throws IndexOutOfBoundsException,IllegalArgumentException",
        "int join(int,int,int,int) throws IndexOutOfBoundsException,IllegalArgumentException",
        "int coarse(int,int,int) throws IndexOutOfBoundsException,IllegalArgumentException",
        "int read(int,int,int,int,int) throws IndexOutOfBoundsException,IllegalArgumentException",
        "int count(int)",
    };
    /** Words that this program has no need of, most of them forbidden. */
    private static final String[] FORBIDDEN = {"\\bcatch\\b", "\\bfinally\\b", "\\btry\\b", "->", "::",
        "\\bsynchronized\\b", "\\bassert\\b", "Exact\\b", "\\bfloat\\b", "\\bdouble\\b", "[Rr]andom", "\\bSystem\\b",
        "\\bObject\\b", "\\bequals\\b", "\\bhashCode\\b", "\\btoString\\b", "\\bvolatile\\b", "\\bThread\\b",
        "static\\s*\\{", "\" \\+", "\\+ \"", "\\b(Integer|Long)\\.[A-Z]"};

    private static int wrong = 0;

    private static void need(String what, boolean holds) {
        if (!holds) {
            wrong++;
            System.out.println("not so: " + what);
        }
    }

    public static void main(String[] args) throws Exception {
        face();
        insideClasses();
        text();
        System.out.println("FaceTest: " + wrong + " wrong");
        if (wrong != 0) {
            System.exit(1);
        }
    }

    private static String told(Method method) {
        StringBuilder text = new StringBuilder(method.getReturnType().getSimpleName() + " " + method.getName());
        List<String> types = new ArrayList<>();
        for (Class<?> type : method.getParameterTypes()) {
            types.add(type.getSimpleName());
        }
        text.append("(").append(String.join(",", types)).append(")");
        List<String> exceptions = new ArrayList<>();
        for (Class<?> type : method.getExceptionTypes()) {
            exceptions.add(type.getSimpleName());
        }
        text.append(exceptions.isEmpty() ? "" : " throws " + String.join(",", exceptions));
        return text.toString();
    }

    private static void face() throws Exception {
        Class<?> face = GridStore.class;
        need("the class is public and final",
            Modifier.isPublic(face.getModifiers()) && Modifier.isFinal(face.getModifiers()));
        need("it has one constructor, public, of nothing", face.getDeclaredConstructors().length == 1
            && Modifier.isPublic(face.getConstructor().getModifiers()));
        Set<String> methods = new TreeSet<>();
        Set<String> names = new HashSet<>();
        for (Method method : face.getDeclaredMethods()) {
            if (!Modifier.isPrivate(method.getModifiers())) {
                methods.add(told(method));
                names.add(method.getName());
                need(method + " is public and of an object", Modifier.isPublic(method.getModifiers())
                    && !Modifier.isStatic(method.getModifiers()));
            }
        }
        need("the methods are the face: " + methods, methods.equals(new TreeSet<>(Arrays.asList(FACE))));
        for (Method method : face.getDeclaredMethods()) {
            need("no private method is named " + method.getName(),
                !Modifier.isPrivate(method.getModifiers()) || !names.contains(method.getName()));
        }
        for (Field field : face.getDeclaredFields()) {
            boolean constant = field.getName().equals("NONE") && field.getType() == int.class
                && Modifier.isPublic(field.getModifiers()) && Modifier.isFinal(field.getModifiers());
            need(field + " is private, or NONE", Modifier.isPrivate(field.getModifiers()) || constant);
        }
    }

    private static void insideClasses() {
        List<Class<?>> classes = new ArrayList<>(Arrays.asList(GridStore.class.getDeclaredClasses()));
        need("at most twelve classes", classes.size() < 12);
        classes.add(GridStore.class);
        for (Class<?> one : classes) {
            int fields = 0;
            for (Field field : one.getDeclaredFields()) {
                boolean fixed = Modifier.isFinal(field.getModifiers());
                need(field + " is no static state", !Modifier.isStatic(field.getModifiers()) || fixed);
                fields += Modifier.isStatic(field.getModifiers()) ? 0 : 1;
            }
            need("at most twenty fields in " + one, fields <= 20);
            need(one + " is private and static, or the face", one == GridStore.class
                || Modifier.isPrivate(one.getModifiers()) && Modifier.isStatic(one.getModifiers()));
            List<Executable> members = new ArrayList<>(Arrays.asList(one.getDeclaredMethods()));
            for (Constructor<?> constructor : one.getDeclaredConstructors()) {
                members.add(constructor);
            }
            for (Executable member : members) {
                need("at most seven parameters in " + member, member.getParameterCount() <= 7);
            }
        }
    }

    private static void text() throws Exception {
        String text = Files.readString(Path.of("src/main/java/GridStore.java"), StandardCharsets.ISO_8859_1);
        for (int i = 0; i < text.length(); i++) {
            need("sign " + (int) text.charAt(i) + " is one of 1 to 127", text.charAt(i) < 128);
        }
        String code = text.replaceAll("(?s)/\\*.*?\\*/", "").replaceAll("//[^\n]*", "");
        for (String word : FORBIDDEN) {
            need("no " + word + " in the text", !Pattern.compile(word).matcher(code).find());
        }
        for (String line : code.split("\n")) {
            need("a library that is listed: " + line, !line.startsWith("import")
                || line.equals("import java.util.Arrays;") || line.equals("import java.util.NoSuchElementException;"));
            need("no package line", !line.startsWith("package"));
        }
    }
}

import java.io.IOException;
import java.lang.reflect.Field;
import java.lang.reflect.Method;
import java.lang.reflect.Modifier;
import java.nio.file.Files;
import java.nio.file.Path;
import java.util.ArrayList;
import java.util.Arrays;
import java.util.Collections;
import java.util.List;
import java.util.regex.Pattern;

/** The public face is the document's and no more; the source keeps out of what LANGUAGE.md bars. */
public final class FaceTest {
    private static final String[] METHODS = {
        "all(int)", "answer(int,int)", "apart(int)", "base(int)", "clear()", "code(int)",
        "find(int,int,int)", "kind(int)", "lines(int)", "mark(int,int,int)", "missed(int,int)",
        "page(int,boolean)", "pages()", "placed(int)", "plan(int,int)", "range(int,int,int,int)",
        "review(int,int,int)", "rule(int,int,int)", "seat(int)", "seats(int,int)", "shared(int,int)",
        "sheet(int,int)", "slip(int,int,int)", "tells(int,int,int)", "total(int)", "unlike()",
        "variant(int,int,int)", "variants(int)"};

    private static final String[] BARRED = {
        "\\bthrow\\b", "\\bthrows\\b", "\\btry\\b", "\\bcatch\\b", "\\bsynchronized\\b", "\\bassert\\b",
        "\\bimport\\b", "\\bpackage\\b", "->", "::", "\\bstatic\\s*\\{", "\\bprotected\\b", "Exact\\b"};

    /** A call of a class that is not of the file: without an import it is one of java.lang. */
    private static final Pattern LIBRARY = Pattern.compile("(?<![\\w.])(?!Kind\\b)[A-Z]\\w*\\.\\w+\\(");
    private static final String LIBRARY_USED = "Math\\.(min|abs|floorMod)\\(";

    public static void main(String[] args) throws IOException {
        members();
        constants();
        nestedClasses();
        source();
        Due.end();
    }

    private static void members() {
        List<String> seen = new ArrayList<>();
        List<String> hidden = new ArrayList<>();
        for (Method method : ClassSheets.class.getDeclaredMethods()) {
            if (Modifier.isPrivate(method.getModifiers())) {
                hidden.add(method.getName());
                continue;
            }
            Due.holds(method + " is public, of the object, answers an int",
                Modifier.isPublic(method.getModifiers()) && !Modifier.isStatic(method.getModifiers())
                    && method.getReturnType() == int.class);
            seen.add(signature(method));
        }
        Collections.sort(seen);
        Due.holds("the methods are the document's, but are " + seen, seen.equals(Arrays.asList(METHODS)));
        for (Class<?> inside : ClassSheets.class.getDeclaredClasses()) {
            for (Method method : inside.getDeclaredMethods()) {
                hidden.add(method.getName());
            }
        }
        for (String method : METHODS) {
            String name = method.substring(0, method.indexOf('('));
            Due.holds("no private method is called " + name, !hidden.contains(name));
        }
        Due.holds("the class is public and final",
            ClassSheets.class.getModifiers() == (Modifier.PUBLIC | Modifier.FINAL));
        Due.is("public constructors", 1, ClassSheets.class.getConstructors().length);
        Due.is("constructors", 1, ClassSheets.class.getDeclaredConstructors().length);
    }

    private static String signature(Method method) {
        List<String> types = new ArrayList<>();
        for (Class<?> type : method.getParameterTypes()) {
            types.add(type.getName());
        }
        return method.getName() + "(" + String.join(",", types) + ")";
    }

    private static void constants() {
        Due.is("UNKNOWN", -1, ClassSheets.UNKNOWN);
        Due.is("BAD", -2, ClassSheets.BAD);
        Due.is("STATE", -3, ClassSheets.STATE);
        Due.is("FULL", -4, ClassSheets.FULL);
        Due.is("NONE", -9, ClassSheets.NONE);
        int open = 0;
        for (Field field : ClassSheets.class.getDeclaredFields()) {
            int how = field.getModifiers();
            Due.holds(field + " is private or a public constant", Modifier.isPrivate(how)
                || how == (Modifier.PUBLIC | Modifier.STATIC | Modifier.FINAL) && field.getType() == int.class);
            Due.holds(field + " is final if it is static", !Modifier.isStatic(how) || Modifier.isFinal(how));
            open += Modifier.isPrivate(how) ? 0 : 1;
        }
        Due.is("constants", 5, open);
    }

    private static void nestedClasses() {
        for (Class<?> inside : ClassSheets.class.getDeclaredClasses()) {
            int how = inside.getModifiers();
            Due.holds(inside + " is static, neither public nor protected",
                Modifier.isStatic(how) && !Modifier.isPublic(how) && !Modifier.isProtected(how));
            for (Field field : inside.getDeclaredFields()) {
                Due.holds(field + " is final if it is static",
                    !Modifier.isStatic(field.getModifiers()) || Modifier.isFinal(field.getModifiers()));
            }
        }
    }

    private static void source() throws IOException {
        String text = Files.readString(Path.of("src/main/java/ClassSheets.java"))
            .replaceAll("(?s)/\\*.*?\\*/", " ").replaceAll("//[^\n]*", " ");
        for (String barred : BARRED) {
            Due.holds("no " + barred + " in the source",
                !Pattern.compile(barred).matcher(text).find());
        }
        LIBRARY.matcher(text).results().forEach(call ->
            Due.holds(call.group() + " is of the library that LANGUAGE.md leaves", call.group().matches(LIBRARY_USED)));
    }
}

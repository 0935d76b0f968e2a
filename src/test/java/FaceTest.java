import java.lang.reflect.Constructor;
import java.lang.reflect.Field;
import java.lang.reflect.Method;
import java.lang.reflect.Modifier;
import java.nio.file.Files;
import java.nio.file.Path;
import java.util.HashSet;
import java.util.List;
import java.util.Set;
import java.util.TreeSet;

/** The face is the document's and no more, and the source keeps to what LANGUAGE.md leaves. */
public final class FaceTest {
    private static final String[] FACE = {
        "feed(int,int,int,int,int)int", "end(int)boolean", "fault(int)int", "text(int)int", "rule(int)int",
        "hand(int,int)int", "sign(int,int,int)int", "layer(int,int,int)int", "law(int)boolean",
        "scribes(int)boolean", "write(int,int,int,int)int", "scrape(int,int)int", "ages(int)int",
        "give(int)int", "years(int,long)int", "status(int)int", "undo()int", "log(int,int)int",
        "shows(int)int", "lamp(int)int", "agrees(int,int,int)int", "may(int,int)int", "best(int)int",
        "over(int,int)int", "order(int)int", "lost(int,int,int)int", "faded(int,int,int)int",
        "noted(int,int,boolean)int", "fits(int)int", "ask()int", "meets(int,int)int", "quire(int)int",
        "game(int,int,int,int)int", "rests(int,int)int", "odds(int,int,int,int)int", "shares(int,int)int",
        "most(int)int", "image()int", "back()int", "count(int)int",
    };

    public static void main(String[] args) throws Exception {
        Class<?> face = ScrapedSkin.class;
        Checks.holds("the class is public and final",
                Modifier.isPublic(face.getModifiers()) && Modifier.isFinal(face.getModifiers()));
        Set<String> publicNames = methodsAreTheFace(face);
        constructorsAndFields(face);
        nestedClasses(face, publicNames);
        if (args.length > 0) {
            source(Files.readAllLines(Path.of(args[0])));
        }
        Checks.end();
    }

    private static Set<String> methodsAreTheFace(Class<?> face) {
        Set<String> told = new TreeSet<>();
        Set<String> names = new HashSet<>();
        for (Method method : face.getDeclaredMethods()) {
            if (Modifier.isPrivate(method.getModifiers())) {
                continue;
            }
            Checks.holds(method + " is public", Modifier.isPublic(method.getModifiers()));
            StringBuilder text = new StringBuilder(method.getName()).append('(');
            for (Class<?> one : method.getParameterTypes()) {
                text.append(text.charAt(text.length() - 1) == '(' ? "" : ",").append(one.getName());
            }
            told.add(text.append(')').append(method.getReturnType().getName()).toString());
            names.add(method.getName());
        }
        Checks.holds("the public methods are those of the document: " + told,
                told.equals(new TreeSet<>(List.of(FACE))));
        for (Method method : face.getDeclaredMethods()) {
            Checks.holds(method + " bears no public name",
                    !Modifier.isPrivate(method.getModifiers()) || !names.contains(method.getName()));
        }
        return names;
    }

    private static void constructorsAndFields(Class<?> face) {
        Constructor<?>[] constructors = face.getDeclaredConstructors();
        Checks.same("constructors", constructors.length, 1);
        Checks.same("parameters of the constructor", constructors[0].getParameterCount(), 0);
        Checks.holds("the constructor is public", Modifier.isPublic(constructors[0].getModifiers()));
        int own = 0;
        for (Field field : face.getDeclaredFields()) {
            boolean constant = field.getName().equals("NONE") || field.getName().equals("HIDDEN");
            Checks.same(field + " is public", Modifier.isPublic(field.getModifiers()), constant);
            Checks.holds(field + " is private, if no constant of the face",
                    constant || Modifier.isPrivate(field.getModifiers()));
            own += Modifier.isStatic(field.getModifiers()) ? 0 : 1;
        }
        Checks.holds("some twenty fields", own <= 20);
        Checks.same("NONE", ScrapedSkin.NONE, -1);
        Checks.same("HIDDEN", ScrapedSkin.HIDDEN, -1000000);
    }

    private static void nestedClasses(Class<?> face, Set<String> publicNames) {
        Checks.holds("some twelve classes", face.getDeclaredClasses().length + 1 <= 12);
        for (Class<?> inner : face.getDeclaredClasses()) {
            Checks.holds(inner + " is static", Modifier.isStatic(inner.getModifiers()));
            Checks.holds(inner + " is not seen from outside",
                    !Modifier.isPublic(inner.getModifiers()) && !Modifier.isProtected(inner.getModifiers()));
            for (Field field : inner.getDeclaredFields()) {
                Checks.holds(field + " is no static state",
                        !Modifier.isStatic(field.getModifiers()) || Modifier.isFinal(field.getModifiers()));
            }
            for (Method method : inner.getDeclaredMethods()) {
                Checks.holds(method + " bears no name of the face", !publicNames.contains(method.getName()));
                Checks.holds(method + " takes at most seven", method.getParameterCount() <= 7);
            }
        }
    }

    private static void source(List<String> lines) {
        int methodFrom = 0;
        for (int i = 0; i < lines.size(); i++) {
            String line = lines.get(i);
            String code = line.replaceAll("\"[^\"]*\"", "\"\"").replaceAll("//.*|/\\*.*", "");
            if (line.startsWith("import ")) {
                Checks.holds("line " + (i + 1) + " imports what is allowed",
                        line.equals("import java.util.Arrays;")
                                || line.equals("import java.util.NoSuchElementException;"));
            }
            Checks.holds("line " + (i + 1) + " keeps to the language", !code.matches(
                    ".*(->|::|\\bcatch\\b|\\btry\\b|\\bfinally\\b|synchronized|assert |\\bpackage\\b|"
                            + "Exact\\(|hashCode|toString|\\bRandom\\b|System\\.(?!arraycopy)).*"));
            if (code.matches("^ {4}( {4})?(public|private|static|int|void|boolean|long|Law|Writing).*\\{$")) {
                methodFrom = i;
            }
            if (code.matches("^ {4}( {4})?\\}$")) {
                Checks.holds("the method from line " + (methodFrom + 1) + " is short", i - methodFrom <= 60
                        || lines.get(methodFrom).contains(" class "));
            }
        }
    }
}

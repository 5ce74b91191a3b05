import java.io.IOException;
import java.lang.reflect.Constructor;
import java.lang.reflect.Field;
import java.lang.reflect.Method;
import java.lang.reflect.Modifier;
import java.nio.file.Files;
import java.nio.file.Path;
import java.util.ArrayList;
import java.util.List;
import java.util.Set;
import java.util.TreeSet;
import java.util.regex.Matcher;
import java.util.regex.Pattern;

/** Rules of LANGUAGE.md that the class or its source shows: the face, static fields, words that may not stand there. */
public final class LanguageTest {
    private static final String SOURCE = "src/main/java/ItemFacts.java";
    private static final Path DOCUMENT = Path.of("../shared/DOC.md");
    private static final Pattern FACE_METHOD = Pattern.compile("public int (\\w+)\\(([^()]*)\\);");
    private static final Pattern FACE_CONSTANTS = Pattern.compile("public static final int ([^;]*);");
    private static final Set<String> FACE = Set.of(
        "item(int,int,int,int)", "service(int,int)", "event(int,int)", "address(int,int,int)", "abroad(int,int)",
        "contents(int,int,int)", "join(int,int,boolean)", "bulk(int,int)", "open(int,int,int)",
        "correct(int,int,int,int)", "row(int,int)", "about(int,int)", "pack(int)", "octet(int)", "aside(int)");
    private static final Set<String> CONSTANTS = Set.of(
        "UNKNOWN", "OUTSIDE", "STATE", "ROOM", "LATE", "LACKS", "WAITS", "ALONE", "HEAVY", "BULKY", "WANTED",
        "EXCLUDED", "NONE");

    private static int wrong = 0;

    private static void hold(boolean held, String rule) {
        if (!held) {
            wrong++;
            System.out.println("not held: " + rule);
        }
    }

    public static void main(String[] args) throws IOException {
        face();
        documentsFace();
        List<Class<?>> all = new ArrayList<>(List.of(ItemFacts.class.getDeclaredClasses()));
        for (Class<?> each : all) {
            hold(Modifier.isStatic(each.getModifiers()), each + " is static");
            hold(!Modifier.isPublic(each.getModifiers()) && !Modifier.isProtected(each.getModifiers()), each + " is hidden");
        }
        all.add(ItemFacts.class);
        hold(all.size() <= 12, "at most twelve classes");
        for (Class<?> each : all) {
            shape(each);
        }
        words();
        System.out.println(wrong == 0 ? "all rules that were looked at hold" : wrong + " rules do not hold");
        if (wrong != 0) {
            System.exit(1);
        }
    }

    private static void face() {
        int modifiers = ItemFacts.class.getModifiers();
        hold(Modifier.isPublic(modifiers) && Modifier.isFinal(modifiers), "the class is public and final");
        Constructor<?>[] made = ItemFacts.class.getDeclaredConstructors();
        hold(made.length == 1 && made[0].getParameterCount() == 0 && Modifier.isPublic(made[0].getModifiers()),
            "one public constructor without parameters");
        Set<String> methods = new TreeSet<>();
        for (Method each : ItemFacts.class.getDeclaredMethods()) {
            if (!Modifier.isPrivate(each.getModifiers())) {
                hold(Modifier.isPublic(each.getModifiers()) && each.getReturnType() == int.class, each + " is of the face");
                methods.add(signature(each));
            }
        }
        hold(methods.equals(new TreeSet<>(FACE)), "the methods are those of the face: " + methods);
        Set<String> constants = new TreeSet<>();
        for (Field each : ItemFacts.class.getDeclaredFields()) {
            if (!Modifier.isPrivate(each.getModifiers())) {
                hold(Modifier.isPublic(each.getModifiers()) && Modifier.isStatic(each.getModifiers()), each + " is of the face");
                constants.add(each.getName());
            }
        }
        hold(constants.equals(new TreeSet<>(CONSTANTS)), "the constants are those of the face: " + constants);
    }

    /** The face as the document writes it: every method's parameters, every constant's value. */
    private static void documentsFace() throws IOException {
        if (!Files.exists(DOCUMENT)) {
            System.out.println("the document is not at hand, so the face was not looked up in it");
            return;
        }
        String document = Files.readString(DOCUMENT);
        int first = document.indexOf("public final class ItemFacts {");
        int last = first < 0 ? -1 : document.indexOf("```", first);
        hold(last > first, "the document has the public face");
        String face = last > first ? document.substring(first, last) : "";
        hold(face.contains("public ItemFacts();"), "the document has the constructor");
        Set<String> methods = new TreeSet<>();
        for (Matcher each = FACE_METHOD.matcher(face); each.find();) {
            methods.add(each.group(1) + "(" + each.group(2).replaceAll(" \\w+(, |$)", ",").replaceAll(",$", "") + ")");
        }
        hold(methods.equals(new TreeSet<>(FACE)), "the document's methods are those of the face: " + methods);
        Set<String> constants = new TreeSet<>();
        for (Matcher each = FACE_CONSTANTS.matcher(face); each.find();) {
            for (String constant : each.group(1).split(", ")) {
                String[] parts = constant.split(" = ");
                constants.add(parts[0]);
                hold(valueOf(parts[0]).equals(parts[1]), "the constant is " + constant);
            }
        }
        hold(constants.equals(new TreeSet<>(CONSTANTS)), "the document's constants are those of the face: " + constants);
    }

    private static String valueOf(String constant) {
        try {
            Field field = ItemFacts.class.getField(constant);
            return field.getType() == int.class && Modifier.isFinal(field.getModifiers())
                ? Integer.toString(field.getInt(null)) : "no int that is final";
        } catch (ReflectiveOperationException e) {
            return "none";
        }
    }

    private static String signature(Method method) {
        List<String> types = new ArrayList<>();
        for (Class<?> each : method.getParameterTypes()) {
            types.add(each.getName());
        }
        return method.getName() + "(" + String.join(",", types) + ")";
    }

    private static void shape(Class<?> type) {
        Set<String> open = new TreeSet<>();
        for (String each : FACE) {
            open.add(each.substring(0, each.indexOf('(')));
        }
        for (Method each : type.getDeclaredMethods()) {
            hold(each.getParameterCount() <= 7, each + " takes at most seven parameters");
            hold(Modifier.isPublic(each.getModifiers()) || !open.contains(each.getName()), each + " has no public one's name");
        }
        int fields = 0;
        for (Field each : type.getDeclaredFields()) {
            if (Modifier.isStatic(each.getModifiers())) {
                hold(Modifier.isFinal(each.getModifiers()), each + " is final");
            } else {
                fields++;
            }
        }
        hold(fields <= 20, type + " has at most twenty fields");
    }

    private static void words() throws IOException {
        String source = Files.readString(Path.of(SOURCE));
        String code = source.replaceAll("(?s)/\\*.*?\\*/", " ").replaceAll("//[^\n]*", " ");
        String[] barred = {
            "\\b(throw|throws|try|catch|finally|synchronized|assert|import|package|native|volatile|transient)\\b", "->",
            "::", "\\bstatic\\s*\\{", "@", "\\b(System|Thread|Random|Object|Class)\\b", "[^\\x00-\\x7f]", "\"",
        };
        for (String each : barred) {
            Matcher found = Pattern.compile(each).matcher(code);
            hold(!found.find(), "the source is without " + each);
        }
    }
}

import java.io.IOException;
import java.lang.reflect.Constructor;
import java.lang.reflect.Field;
import java.lang.reflect.Method;
import java.lang.reflect.Modifier;
import java.nio.charset.StandardCharsets;
import java.nio.file.Files;
import java.nio.file.Path;
import java.util.ArrayList;
import java.util.List;
import java.util.TreeSet;
import java.util.regex.Matcher;
import java.util.regex.Pattern;

/** The public face: what stands in the document's code block, in its order, and nothing else. */
public final class FaceTest {
    private static final Path DOCUMENT = Path.of("..", "shared", "DOC.md");
    private static final Path SOURCE = Path.of("src", "main", "java", "BellHush.java");
    // The class, its constructor and its calls.
    private static final int DECLARATIONS = 1 + 1 + 30;
    private static final Checks CHECKS = new Checks();

    public static void main(String[] args) {
        CHECKS.run(FaceTest.class);
    }

    @Holds(at = "The public face", says = "public final class BellHush {")
    static void classAndConstructor() {
        int modifiers = BellHush.class.getModifiers();
        CHECKS.isTrue("the class is public and final", Modifier.isPublic(modifiers) && Modifier.isFinal(modifiers));
        Constructor<?>[] constructors = BellHush.class.getDeclaredConstructors();
        CHECKS.due("constructors", constructors.length, 1);
        CHECKS.isTrue("the constructor is public", Modifier.isPublic(constructors[0].getModifiers()));
        CHECKS.due("the constructor's parameters", constructors[0].getParameterCount(), 0);
        CHECKS.isTrue("no interface, no class above", BellHush.class.getInterfaces().length == 0
            && BellHush.class.getSuperclass() == Object.class);
    }

    @Holds(at = "The public face", says = "public BellHush(); public int list(")
    static void methodsOfTheDocumentAndNoOthers() throws IOException {
        List<String> due = documentMethods();
        TreeSet<String> publicNames = new TreeSet<>();
        TreeSet<String> privateNames = new TreeSet<>();
        for (Method method : BellHush.class.getDeclaredMethods()) {
            if (Modifier.isPrivate(method.getModifiers())) {
                privateNames.add(method.getName());
                continue;
            }
            publicNames.add(method.getName());
            CHECKS.isTrue("stands in the document: " + signature(method), due.remove(signature(method)));
        }
        CHECKS.isTrue("stand in the document alone: " + due, due.isEmpty());
        privateNames.retainAll(publicNames);
        CHECKS.isTrue("private with a public one's name: " + privateNames, privateNames.isEmpty());
    }

    @Holds(at = "The public face", says = "public double meanPrice(); public long digest(); }")
    static void theFileDeclaresTheDocumentsFaceWordForWord() throws IOException {
        List<String> due = documentFace();
        CHECKS.due("declarations in the document", due.size(), DECLARATIONS);
        List<String> declared = sourceFace();
        CHECKS.due("declarations in the file", declared.size(), DECLARATIONS);
        for (int i = 0; i < Math.min(due.size(), declared.size()); i++) {
            CHECKS.isTrue("the file says " + declared.get(i) + ", the document " + due.get(i),
                declared.get(i).equals(due.get(i)));
        }
    }

    @Holds(at = "The public face", says = "public final class BellHush {")
    static void noFieldCanBeSeen() {
        for (Field field : BellHush.class.getDeclaredFields()) {
            CHECKS.isTrue("is private: " + field.getName(), Modifier.isPrivate(field.getModifiers()));
            CHECKS.isTrue("is final if static: " + field.getName(),
                !Modifier.isStatic(field.getModifiers()) || Modifier.isFinal(field.getModifiers()));
        }
    }

    @Holds(at = "Terms", says = "Ahead of the calls list, addTrader, buy, sell, pass the interface says:"
        + " ---- the market.")
    static void theMarket() throws IOException {
        CHECKS.isTrue("calls under it", under("the market").equals(" list addTrader buy sell pass"));
    }

    @Holds(at = "Terms", says = "Ahead of the calls second, towers, silenceOf, dovesOn, priceOf, secondsUntilStroke,"
        + " strokesOf, openSeconds, dearest, nextToStrike the interface says: ---- towers.")
    static void towers() throws IOException {
        CHECKS.isTrue("calls under it", under("towers").equals(" second towers silenceOf dovesOn priceOf"
            + " secondsUntilStroke strokesOf openSeconds dearest nextToStrike"));
    }

    @Holds(at = "Terms", says = "Ahead of the calls traders, purseOf, holds, worthOf, richest, shortsOf, inDebt"
        + " the interface says: ---- traders.")
    static void traders() throws IOException {
        CHECKS.isTrue("calls under it", under("traders").equals(
            " traders purseOf holds worthOf richest shortsOf inDebt"));
    }

    @Holds(at = "Terms", says = "Ahead of the calls closingPrice, priceIn, worthIn, bestToBuy, bestToSell,"
        + " secondsUntilDebt, meanPrice, digest the interface says: ---- what would be.")
    static void whatWouldBe() throws IOException {
        CHECKS.isTrue("calls under it", under("what would be").equals(
            " closingPrice priceIn worthIn bestToBuy bestToSell secondsUntilDebt meanPrice digest"));
    }

    /** The public calls between this heading and the next one in the class's file. */
    private static String under(String heading) throws IOException {
        Pattern call = Pattern.compile("^    public \\w+ (\\w+)\\(");
        StringBuilder calls = new StringBuilder();
        boolean inside = false;
        for (String line : Files.readAllLines(SOURCE, StandardCharsets.UTF_8)) {
            if (line.contains("// ----")) {
                inside = line.trim().equals("// ---- " + heading);
            }
            Matcher matcher = call.matcher(line);
            if (inside && matcher.find()) {
                calls.append(' ').append(matcher.group(1));
            }
        }
        return calls.toString();
    }

    /** The declarations of the document's code block, in its order. */
    private static List<String> documentFace() throws IOException {
        List<String> face = new ArrayList<>();
        boolean inside = false;
        for (String line : Files.readAllLines(DOCUMENT, StandardCharsets.UTF_8)) {
            if (line.startsWith("## ")) {
                inside = line.equals("## The public face");
            } else if (inside && line.trim().startsWith("public ")) {
                face.add(line.trim().replaceAll(" ?[;{]$", ""));
            }
        }
        return face;
    }

    /** The class's declarations that are not private, in the file's order, each on one line. */
    private static List<String> sourceFace() throws IOException {
        List<String> face = new ArrayList<>();
        Matcher matcher = Pattern.compile("(?m)^ *(public [^;{]*)").matcher(Files.readString(SOURCE));
        while (matcher.find()) {
            face.add(matcher.group(1).trim().replaceAll("\\s+", " "));
        }
        return face;
    }

    /** The document's calls as signature() has them: without the names of parameters. */
    private static List<String> documentMethods() throws IOException {
        List<String> methods = new ArrayList<>();
        for (String line : documentFace()) {
            if (!line.startsWith("public final class ") && !line.startsWith("public BellHush(")) {
                methods.add(line.replaceAll("\\bint \\w+([,)])", "int$1"));
            }
        }
        return methods;
    }

    private static String signature(Method method) {
        String text = Modifier.toString(method.getModifiers()) + " " + method.getReturnType().getSimpleName() + " "
            + method.getName() + "(" + names(method.getParameterTypes()) + ")";
        String thrown = names(method.getExceptionTypes());
        return thrown.isEmpty() ? text : text + " throws " + thrown;
    }

    private static String names(Class<?>[] types) {
        StringBuilder text = new StringBuilder();
        for (Class<?> type : types) {
            text.append(text.length() == 0 ? "" : ", ").append(type.getSimpleName());
        }
        return text.toString();
    }
}

import java.io.IOException;
import java.lang.reflect.Constructor;
import java.lang.reflect.Field;
import java.lang.reflect.Method;
import java.lang.reflect.Modifier;
import java.nio.charset.StandardCharsets;
import java.nio.file.Files;
import java.nio.file.Path;
import java.util.Arrays;
import java.util.TreeSet;
import java.util.regex.Matcher;
import java.util.regex.Pattern;

/** The public face: what stands in the document's code block, in its order, and nothing else. */
public final class FaceTest {
    private static final String INDEX = " throws IndexOutOfBoundsException";
    private static final String ARGUMENT = "IllegalArgumentException";
    private static final String STATE = "IllegalStateException";
    private static final String[] FACE = {
        "int list(int, int, int) throws " + ARGUMENT + ", " + STATE,
        "int addTrader() throws " + STATE,
        "int buy(int, int, int)" + INDEX + ", " + ARGUMENT + ", " + STATE,
        "int sell(int, int, int)" + INDEX + ", " + ARGUMENT + ", " + STATE,
        "int pass(int) throws " + ARGUMENT,
        "int second()",
        "int towers()",
        "int silenceOf(int)" + INDEX,
        "int dovesOn(int)" + INDEX,
        "int priceOf(int)" + INDEX,
        "int secondsUntilStroke(int)" + INDEX,
        "int strokesOf(int)" + INDEX,
        "int openSeconds(int)" + INDEX,
        "int dearest()",
        "int nextToStrike()",
        "int traders()",
        "int purseOf(int)" + INDEX,
        "int holds(int, int)" + INDEX,
        "int worthOf(int)" + INDEX,
        "int richest()",
        "int shortsOf(int)" + INDEX,
        "int inDebt()",
        "int closingPrice(int)" + INDEX,
        "int priceIn(int, int)" + INDEX + ", " + ARGUMENT,
        "int worthIn(int, int)" + INDEX + ", " + ARGUMENT,
        "int bestToBuy()",
        "int bestToSell(int, int)" + INDEX,
        "int secondsUntilDebt(int)" + INDEX,
        "double meanPrice()",
        "long digest()",
    };
    private static final Checks CHECKS = new Checks();

    public static void main(String[] args) {
        CHECKS.run(FaceTest.class);
    }

    @Holds(at = "The public face", says = "public final class BellHush {")
    static void classAndConstructor() {
        int modifiers = BellHush.class.getModifiers();
        CHECKS.isTrue("the class is public and final", Modifier.isPublic(modifiers) && Modifier.isFinal(modifiers));
        Constructor<?>[] constructors = BellHush.class.getDeclaredConstructors();
        CHECKS.due("constructors", constructors.length, 1);
        CHECKS.isTrue("the constructor is public", Modifier.isPublic(constructors[0].getModifiers()));
        CHECKS.due("the constructor's parameters", constructors[0].getParameterCount(), 0);
        CHECKS.isTrue("no interface, no class above", BellHush.class.getInterfaces().length == 0
            && BellHush.class.getSuperclass() == Object.class);
    }

    @Holds(at = "The public face", says = "public BellHush(); public int list(")
    static void methodsOfTheDocumentAndNoOthers() {
        TreeSet<String> due = new TreeSet<>(Arrays.asList(FACE));
        TreeSet<String> publicNames = new TreeSet<>();
        TreeSet<String> privateNames = new TreeSet<>();
        for (Method method : BellHush.class.getDeclaredMethods()) {
            if (Modifier.isPrivate(method.getModifiers())) {
                privateNames.add(method.getName());
                continue;
            }
            publicNames.add(method.getName());
            CHECKS.isTrue("is public and no static: " + method.getName(),
                Modifier.isPublic(method.getModifiers()) && !Modifier.isStatic(method.getModifiers()));
            CHECKS.isTrue("stands in the document: " + signature(method), due.remove(signature(method)));
        }
        CHECKS.isTrue("stand in the document alone: " + due, due.isEmpty());
        privateNames.retainAll(publicNames);
        CHECKS.isTrue("private with a public one's name: " + privateNames, privateNames.isEmpty());
    }

    @Holds(at = "The public face", says = "public final class BellHush {")
    static void noFieldCanBeSeen() {
        for (Field field : BellHush.class.getDeclaredFields()) {
            CHECKS.isTrue("is private: " + field.getName(), Modifier.isPrivate(field.getModifiers()));
            CHECKS.isTrue("is final if static: " + field.getName(),
                !Modifier.isStatic(field.getModifiers()) || Modifier.isFinal(field.getModifiers()));
        }
    }

    @Holds(at = "Terms", says = "Ahead of the calls list, addTrader, buy, sell, pass the interface says:"
        + " ---- the market.")
    static void theMarket() throws IOException {
        CHECKS.isTrue("calls under it", under("the market").equals(" list addTrader buy sell pass"));
    }

    @Holds(at = "Terms", says = "Ahead of the calls second, towers, silenceOf, dovesOn, priceOf, secondsUntilStroke,"
        + " strokesOf, openSeconds, dearest, nextToStrike the interface says: ---- towers.")
    static void towers() throws IOException {
        CHECKS.isTrue("calls under it", under("towers").equals(" second towers silenceOf dovesOn priceOf"
            + " secondsUntilStroke strokesOf openSeconds dearest nextToStrike"));
    }

    @Holds(at = "Terms", says = "Ahead of the calls traders, purseOf, holds, worthOf, richest, shortsOf, inDebt"
        + " the interface says: ---- traders.")
    static void traders() throws IOException {
        CHECKS.isTrue("calls under it", under("traders").equals(
            " traders purseOf holds worthOf richest shortsOf inDebt"));
    }

    @Holds(at = "Terms", says = "Ahead of the calls closingPrice, priceIn, worthIn, bestToBuy, bestToSell,"
        + " secondsUntilDebt, meanPrice, digest the interface says: ---- what would be.")
    static void whatWouldBe() throws IOException {
        CHECKS.isTrue("calls under it", under("what would be").equals(
            " closingPrice priceIn worthIn bestToBuy bestToSell secondsUntilDebt meanPrice digest"));
    }

    /** The public calls between this heading and the next one in the class's file. */
    private static String under(String heading) throws IOException {
        Pattern call = Pattern.compile("^    public \\w+ (\\w+)\\(");
        StringBuilder calls = new StringBuilder();
        boolean inside = false;
        for (String line : Files.readAllLines(Path.of("src/main/java/BellHush.java"), StandardCharsets.UTF_8)) {
            if (line.contains("// ----")) {
                inside = line.trim().equals("// ---- " + heading);
            }
            Matcher matcher = call.matcher(line);
            if (inside && matcher.find()) {
                calls.append(' ').append(matcher.group(1));
            }
        }
        return calls.toString();
    }

    private static String signature(Method method) {
        String text = method.getReturnType().getSimpleName() + " " + method.getName()
            + "(" + names(method.getParameterTypes()) + ")";
        String thrown = names(method.getExceptionTypes());
        return thrown.isEmpty() ? text : text + " throws " + thrown;
    }

    private static String names(Class<?>[] types) {
        StringBuilder text = new StringBuilder();
        for (Class<?> type : types) {
            text.append(text.length() == 0 ? "" : ", ").append(type.getSimpleName());
        }
        return text.toString();
    }
}

import java.io.IOException;
import java.lang.management.ManagementFactory;
import java.lang.reflect.Field;
import java.lang.reflect.Method;
import java.lang.reflect.Modifier;
import java.nio.file.Files;
import java.nio.file.Path;
import java.util.ArrayList;
import java.util.Arrays;
import java.util.List;
import java.util.Set;
import java.util.TreeSet;
import java.util.regex.Matcher;
import java.util.regex.Pattern;

/** The document's face and no more; what LANGUAGE.md rules out; and how little the calls make. */
public final class FaceTest {
    private static final Check CHECK = new Check();

    private static final String[] FACE = {
        "int feed(int,int,int,int,int)",
        "int plan(int) IllegalArgumentException",
        "int chart(int) IllegalArgumentException",
        "int fault()",
        "int push(int,long) IndexOutOfBoundsException IllegalArgumentException IllegalStateException",
        "int pop(int) IndexOutOfBoundsException IllegalStateException",
        "int lessen(int,int,long) IndexOutOfBoundsException NoSuchElementException "
            + "IllegalArgumentException IllegalStateException",
        "int drop(int,int) IndexOutOfBoundsException NoSuchElementException IllegalStateException",
        "int pour(int) IndexOutOfBoundsException IllegalStateException",
        "int digits(int) IllegalArgumentException IllegalStateException",
        "int clear(int) IndexOutOfBoundsException",
        "int undo()",
        "int told(int) IllegalArgumentException",
        "long queue(int,int) IndexOutOfBoundsException IllegalArgumentException",
        "long item(int,int,int) IndexOutOfBoundsException NoSuchElementException IllegalArgumentException",
        "int bucket(int,int) IndexOutOfBoundsException",
        "int order(int,int) IndexOutOfBoundsException NoSuchElementException",
        "long run(int,int) IllegalArgumentException",
        "long taken(int,int,int) IllegalArgumentException NoSuchElementException",
        "int fewest()",
        "long way(int,int,int,int) IllegalArgumentException NoSuchElementException",
        "long ways(int,int,int) IllegalArgumentException NoSuchElementException",
        "int nodes(int,int,int) IllegalArgumentException NoSuchElementException",
        "long replay(int,long,int) IllegalArgumentException",
        "long happened(int,long,int,int) IllegalArgumentException NoSuchElementException",
        "long print()",
        "int status(int)",
    };

    public static void main(String[] args) throws IOException {
        theFace();
        noOtherNames();
        noStaticState();
        theSource(Path.of(args.length > 0 ? args[0] : "src/main/java/DueQueue.java"));
        aNewObjectIsSmall();
        callsMakeNothing();
        CHECK.end("FaceTest");
    }

    private static String told(Method method) {
        StringBuilder text = new StringBuilder();
        text.append(method.getReturnType().getSimpleName()).append(' ').append(method.getName()).append('(');
        List<String> types = new ArrayList<>();
        for (Class<?> type : method.getParameterTypes()) {
            types.add(type.getSimpleName());
        }
        text.append(String.join(",", types)).append(')');
        for (Class<?> exception : method.getExceptionTypes()) {
            text.append(' ').append(exception.getSimpleName());
        }
        return text.toString();
    }

    private static void theFace() {
        Set<String> seen = new TreeSet<>();
        for (Method method : DueQueue.class.getDeclaredMethods()) {
            if (!Modifier.isPrivate(method.getModifiers())) {
                CHECK.same("public: " + method.getName(), "true",
                        Boolean.toString(Modifier.isPublic(method.getModifiers())));
                seen.add(told(method));
            }
        }
        CHECK.same("the methods", new TreeSet<>(Arrays.asList(FACE)).toString(), seen.toString());
        CHECK.due("constructors", 1, DueQueue.class.getDeclaredConstructors().length);
        CHECK.due("constructor without arguments", 0,
                DueQueue.class.getDeclaredConstructors()[0].getParameterCount());
        CHECK.due("final, public", Modifier.FINAL | Modifier.PUBLIC, DueQueue.class.getModifiers());
        for (Field field : DueQueue.class.getDeclaredFields()) {
            CHECK.same("field " + field.getName(), field.getName().equals("NONE") ? "public static final"
                    : "private", field.getName().equals("NONE") ? Modifier.toString(field.getModifiers())
                    : Modifier.isPrivate(field.getModifiers()) ? "private" : "open");
        }
        for (Class<?> inside : DueQueue.class.getDeclaredClasses()) {
            CHECK.same("class " + inside.getSimpleName() + " is private and static", "true",
                    Boolean.toString(Modifier.isPrivate(inside.getModifiers())
                            && Modifier.isStatic(inside.getModifiers())));
        }
        CHECK.same("at most twelve classes", "true",
                Boolean.toString(DueQueue.class.getDeclaredClasses().length < 12));
    }

    private static void noOtherNames() {
        Set<String> face = new TreeSet<>();
        for (Method method : DueQueue.class.getMethods()) {
            face.add(method.getName());
        }
        List<Class<?>> all = new ArrayList<>(List.of(DueQueue.class.getDeclaredClasses()));
        all.add(DueQueue.class);
        for (Class<?> one : all) {
            for (Method method : one.getDeclaredMethods()) {
                if (!Modifier.isPublic(method.getModifiers())) {
                    CHECK.same(method.getName() + " is no name of the face", "false",
                            Boolean.toString(face.contains(method.getName())));
                }
                CHECK.same(method.getName() + " takes seven at most", "true",
                        Boolean.toString(method.getParameterCount() <= 7));
            }
        }
    }

    private static void noStaticState() {
        List<Class<?>> all = new ArrayList<>(List.of(DueQueue.class.getDeclaredClasses()));
        all.add(DueQueue.class);
        for (Class<?> one : all) {
            int fields = 0;
            for (Field field : one.getDeclaredFields()) {
                boolean isStatic = Modifier.isStatic(field.getModifiers());
                fields += isStatic ? 0 : 1;
                CHECK.same("static is final: " + field.getName(), "true",
                        Boolean.toString(!isStatic || Modifier.isFinal(field.getModifiers())
                                && field.getType().isPrimitive()));
            }
            CHECK.same("at most twenty fields in " + one.getSimpleName(), "true",
                    Boolean.toString(fields <= 20));
        }
    }

    private static void theSource(Path path) throws IOException {
        String source = Files.readString(path);
        String code = source.replaceAll("(?s)/\\*.*?\\*/", "").replaceAll("//.*", "")
                .replaceAll("\"[^\"\n]*\"", "\"\"");
        String[] ruledOut = {"->", "::", "\\bcatch\\b", "\\btry\\b", "\\bfinally\\b", "\\bsynchronized\\b",
            "\\bassert\\b", "\\bpackage\\b", "\\bdouble\\b", "\\bfloat\\b", "\\bObject\\b", "Exact\\b",
            "\\bnull\\b", "\\bRandom\\b", "\\bSystem\\.(?!arraycopy)", "\\[\\]\\["};
        for (String one : ruledOut) {
            Matcher matcher = Pattern.compile(one).matcher(code);
            CHECK.same("not in the source: " + one, "", matcher.find() ? matcher.group() : "");
        }
        Matcher imports = Pattern.compile("import ([\\w.]+);").matcher(code);
        Set<String> allowed = Set.of("java.util.Arrays", "java.util.NoSuchElementException");
        while (imports.find()) {
            CHECK.same("import " + imports.group(1), "true",
                    Boolean.toString(allowed.contains(imports.group(1))));
        }
        for (char sign : source.toCharArray()) {
            if (sign > 126 || sign < 32 && sign != '\n') {
                CHECK.due("a sign of the source", 32, sign);
            }
        }
    }

    private static void aNewObjectIsSmall() {
        // The first one loads the classes; only the second one is counted.
        DueQueue x = new DueQueue();
        long before = allocated();
        x = new DueQueue();
        long bytes = allocated() - before;
        CHECK.due("made", 0, x.told(1));
        CHECK.same("a new object has fewer than ten thousand elements, " + bytes + " bytes", "true",
                Boolean.toString(bytes < 45_000));
    }

    private static void callsMakeNothing() {
        DueQueue x = new DueQueue();
        // The first round loads classes; only the second one is counted.
        for (int round = 0; round < 2; round++) {
            long before = allocated();
            long sum = everyCall(x);
            long bytes = allocated() - before;
            if (round == 1) {
                CHECK.same("calls that throw nothing make nothing, " + sum + ": " + bytes + " bytes", "true",
                        Boolean.toString(bytes < 1000));
            }
        }
    }

    private static long everyCall(DueQueue x) {
        long sum = x.clear(0) + x.clear(1) + x.digits(2);
        for (int key = 40; key > 0; key--) {
            sum += x.push(0, key);
        }
        sum += x.pop(0) + x.lessen(0, 0, 20) + x.drop(0, 1) + x.order(0, 30) + x.bucket(0, 3);
        sum += x.item(0, 0, 2) + x.queue(0, 6) + x.print() + x.pour(1) + x.undo() + x.told(6);
        // "push 7;push 5;pop;  ", "edge 0 1 5;event A1;"
        x.feed(0x70757368, 0x20373b70, 0x75736820, 0x353b706f, 0x703b2020);
        sum += x.plan(20) + x.run(1, 4) + x.taken(1, 0, 0) + x.fewest();
        x.feed(0x65646765, 0x20302031, 0x20353b65, 0x76656e74, 0x2041313b);
        sum += x.chart(20) + x.way(1, 0, 1, 0) + x.ways(1, 0, 1) + x.nodes(1, 0, 1) + x.replay(1, 5, 0);
        sum += x.happened(1, 5, 0, 0) + x.fault() + x.status(0) + x.clear(0) + x.clear(1);
        return sum;
    }

    private static long allocated() {
        return ((com.sun.management.ThreadMXBean) ManagementFactory.getThreadMXBean())
                .getThreadAllocatedBytes(Thread.currentThread().getId());
    }
}

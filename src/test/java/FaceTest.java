import java.io.IOException;
import java.lang.management.ManagementFactory;
import java.lang.reflect.Constructor;
import java.lang.reflect.Field;
import java.lang.reflect.Method;
import java.lang.reflect.Modifier;
import java.nio.file.Files;
import java.nio.file.Path;
import java.util.Arrays;
import java.util.Set;
import java.util.TreeSet;
import java.util.regex.Matcher;
import java.util.regex.Pattern;

/** The public face of the document, rule 1 of the language, and the room that the dearest calls take. */
public final class FaceTest {
    private static final String FACE = "int setLevels(int) int setLevel(int,int,int,int) int setOption(int,int)"
            + " int setShare(int,int) int append(int) int execute() int errorPosition() int spawn(int,int,int,int,int)"
            + " int kill(int) int pin(int,int) int unpin(int) int tick() int run(int) int clock() int state(int)"
            + " int property(int,int) int queueLength(int) int queued(int,int) int history(int) int usageEntries()"
            + " int usageEntry(int,int) int usageOf(int,int) int ratioBits(int) int suspects() long lateBits(int)"
            + " long meanBits(int) int total(int) int predictEnd(int,int) int starvation(int,int) int bestBoost(int)"
            + " int unfairnessBits(int) int gain(int,int) int switchesWith(int,int,int) int save() int restore()";

    private static final Path DOCUMENT = Path.of("..", "shared", "DOC.md");

    public static void main(String[] args) throws IOException {
        face();
        document();
        members();
        room();
        Check.end();
    }

    private static void face() {
        Set<String> due = new TreeSet<>(Arrays.asList(FACE.split("(?<=\\)) ")));
        Set<String> got = new TreeSet<>();
        for (Method method : FeedbackQueueSimulator.class.getDeclaredMethods()) {
            if (Modifier.isPublic(method.getModifiers())) {
                StringBuilder types = new StringBuilder();
                for (Class<?> type : method.getParameterTypes()) {
                    types.append(types.length() == 0 ? "" : ",").append(type.getName());
                }
                got.add(method.getReturnType().getName() + " " + method.getName() + "(" + types + ")");
            }
        }
        Check.due("the public methods", got.toString(), due.toString());
        int modifiers = FeedbackQueueSimulator.class.getModifiers();
        Check.due("public and final", Modifier.toString(modifiers), "public final");
        Check.due("nothing comes from above", FeedbackQueueSimulator.class.getSuperclass().getName(), "java.lang.Object");
        Check.due("nor from the side", FeedbackQueueSimulator.class.getInterfaces().length, 0);
        Constructor<?>[] constructors = FeedbackQueueSimulator.class.getDeclaredConstructors();
        Check.due("constructors", constructors.length, 1);
        Check.due("its parameters", constructors[0].getParameterCount(), 0);
        Check.due("public", Modifier.isPublic(constructors[0].getModifiers()) ? 1 : 0, 1);
    }

    /** The face, line by line as the document writes it: types, names, parameters and throws clauses. */
    private static void document() throws IOException {
        if (!Files.exists(DOCUMENT)) {
            System.out.println(DOCUMENT + " was not found: the face was not compared with it");
            return;
        }
        String text = Files.readString(DOCUMENT);
        int begin = text.indexOf("public final class FeedbackQueueSimulator {");
        int end = text.indexOf("```", begin);
        Check.due("the face stands in the document", begin >= 0 && end > begin ? 1 : 0, 1);
        Set<String> due = new TreeSet<>();
        Matcher lines = Pattern.compile("^    public (.*);$", Pattern.MULTILINE).matcher(text.substring(begin, end));
        while (lines.find()) {
            // The names of parameters are not in a compiled class.
            due.add(lines.group(1).replaceAll("(int|long) \\w+(?=[,)])", "$1"));
        }
        Set<String> got = new TreeSet<>();
        for (Method method : FeedbackQueueSimulator.class.getDeclaredMethods()) {
            if (Modifier.isPublic(method.getModifiers())) {
                got.add(method.getReturnType().getName() + " " + method.getName() + "("
                        + names(method.getParameterTypes()) + ")" + thrown(method.getExceptionTypes()));
                Check.due("no other modifier: " + method, Modifier.toString(method.getModifiers()), "public");
            }
        }
        for (Constructor<?> constructor : FeedbackQueueSimulator.class.getDeclaredConstructors()) {
            got.add("FeedbackQueueSimulator(" + names(constructor.getParameterTypes()) + ")"
                    + thrown(constructor.getExceptionTypes()));
        }
        Check.due("the face of the document", got.toString(), due.toString());
    }

    private static String names(Class<?>[] types) {
        StringBuilder names = new StringBuilder();
        for (Class<?> type : types) {
            names.append(names.length() == 0 ? "" : ", ").append(type.getSimpleName());
        }
        return names.toString();
    }

    private static String thrown(Class<?>[] types) {
        return types.length == 0 ? "" : " throws " + names(types);
    }

    private static void members() {
        Set<String> face = new TreeSet<>();
        for (Method method : FeedbackQueueSimulator.class.getDeclaredMethods()) {
            if (Modifier.isPublic(method.getModifiers())) {
                face.add(method.getName());
            }
        }
        for (Method method : FeedbackQueueSimulator.class.getDeclaredMethods()) {
            boolean hidden = Modifier.isPrivate(method.getModifiers());
            Check.due("public or private: " + method, hidden || Modifier.isPublic(method.getModifiers()) ? 1 : 0, 1);
            Check.due("a name of its own: " + method, hidden && face.contains(method.getName()) ? 1 : 0, 0);
        }
        for (Field field : FeedbackQueueSimulator.class.getDeclaredFields()) {
            Check.due("private: " + field, Modifier.isPrivate(field.getModifiers()) ? 1 : 0, 1);
        }
        for (Class<?> inside : FeedbackQueueSimulator.class.getDeclaredClasses()) {
            Check.due("static: " + inside, Modifier.isStatic(inside.getModifiers()) ? 1 : 0, 1);
            boolean open = Modifier.isPublic(inside.getModifiers()) || Modifier.isProtected(inside.getModifiers());
            Check.due("private or package-visible: " + inside, open ? 1 : 0, 0);
            for (Method method : inside.getDeclaredMethods()) {
                Check.due("a name of its own: " + method, face.contains(method.getName()) ? 1 : 0, 0);
            }
            for (Field field : inside.getDeclaredFields()) {
                boolean fixed = !Modifier.isStatic(field.getModifiers()) || Modifier.isFinal(field.getModifiers());
                Check.due("no static state: " + field, fixed ? 1 : 0, 1);
            }
        }
    }

    /** Ticks, predictions and snapshots make no objects: what 500 dear calls allocate stays small. */
    private static void room() {
        FeedbackQueueSimulator x = new FeedbackQueueSimulator();
        for (int p = 0; p < 10; p++) {
            x.spawn(p % 4, p % 2, 3, p % 5, 20);
        }
        com.sun.management.ThreadMXBean threads =
                (com.sun.management.ThreadMXBean) ManagementFactory.getThreadMXBean();
        long thread = Thread.currentThread().getId();
        threads.getThreadAllocatedBytes(thread);
        long before = threads.getThreadAllocatedBytes(thread);
        for (int k = 0; k < 100; k++) {
            x.run(1);
            x.bestBoost(100);
            x.starvation(200, 0);
            x.save();
            x.restore();
        }
        long allocated = threads.getThreadAllocatedBytes(thread) - before;
        Check.due("few bytes: " + allocated, allocated < 20000 ? 1 : 0, 1);
    }
}

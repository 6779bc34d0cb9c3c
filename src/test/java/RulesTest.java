import java.lang.management.ManagementFactory;
import java.lang.reflect.Constructor;
import java.lang.reflect.Field;
import java.lang.reflect.Method;
import java.lang.reflect.Modifier;
import java.nio.file.Files;
import java.nio.file.Path;
import java.util.Arrays;
import java.util.Random;
import java.util.TreeSet;

/** The face, what can be seen of the language's rules, wild arguments, and the room that calls take. */
public final class RulesTest {
    private static final String FACE = "ask(int):int cell(int,int,int):long close(int,int):int count(int):int "
            + "drop(int):int end(int):int fault(int):int feed(int,int,int,int,int):int find(int,int,int):int "
            + "flush(int):int found(int):int item(int,int,int):int link(int,int,int):boolean loads(int):int "
            + "look(int,int):int make(int,int):int map():int member(int,int,int):int object(int,int):int "
            + "other(int,int,int,int):boolean outcome(int):int put(int,int,int):boolean size(int,int):int unit():int "
            + "value(int,int):long write(int,int):int";

    private static void face() {
        TreeSet<String> face = new TreeSet<>();
        TreeSet<String> names = new TreeSet<>();
        for (Method m : BeeRegister.class.getDeclaredMethods()) {
            if (Modifier.isPublic(m.getModifiers())) {
                StringBuilder text = new StringBuilder(m.getName()).append('(');
                for (Class<?> p : m.getParameterTypes()) {
                    text.append(text.charAt(text.length() - 1) == '(' ? "" : ",").append(p.getName());
                }
                face.add(text + "):" + m.getReturnType().getName());
                names.add(m.getName());
            } else {
                Kit.due(m.getName() + " is private", Modifier.isPrivate(m.getModifiers()), true);
            }
        }
        Kit.due("the face is " + String.join(" ", face), face.equals(new TreeSet<>(Arrays.asList(FACE.split(" ")))), true);
        Kit.due("the class is final", Modifier.isFinal(BeeRegister.class.getModifiers()), true);
        Constructor<?>[] constructors = BeeRegister.class.getDeclaredConstructors();
        Kit.due("constructors", constructors.length, 1);
        for (Field f : BeeRegister.class.getDeclaredFields()) {
            Kit.due(f.getName() + " is private", Modifier.isPrivate(f.getModifiers()), !f.getName().equals("NONE"));
        }
        Class<?>[] inside = BeeRegister.class.getDeclaredClasses();
        Kit.due("twelve classes at most", inside.length < 12, true);
        for (Class<?> c : inside) {
            Kit.due(c.getName() + " is static", Modifier.isStatic(c.getModifiers()), true);
            Kit.due(c.getName() + " is not public", Modifier.isPublic(c.getModifiers()), false);
            int fields = 0;
            for (Field f : c.getDeclaredFields()) {
                fields += Modifier.isStatic(f.getModifiers()) ? 0 : 1;
                Kit.due(f.getName() + " is no static state",
                        Modifier.isStatic(f.getModifiers()) && !Modifier.isFinal(f.getModifiers()), false);
            }
            Kit.due(c.getName() + " has twenty fields at most", fields <= 20, true);
            for (Method m : c.getDeclaredMethods()) {
                Kit.due(m + " bears no public name", names.contains(m.getName()), false);
                Kit.due(m + " has seven parameters at most", m.getParameterCount() <= 7, true);
            }
        }
        Kit.due("NONE", BeeRegister.NONE, -1);
    }

    private static void words() throws java.io.IOException {
        String source = Files.readString(Path.of("src/main/java/BeeRegister.java"));
        String code = source.replaceAll("(?s)/\\*.*?\\*/", "").replaceAll("//[^\n]*", "")
                .replaceAll("\"[^\"]*\"", "\"\"");
        for (String word : new String[] {"throw", "throws", "try", "catch", "synchronized", "assert", "import",
            "package", "protected", "Object", "ArrayList", "lambda", "double", "float", "volatile", "native"}) {
            Kit.due("the word " + word, code.matches("(?s).*\\b" + word + "\\b.*"), false);
        }
        Kit.due("arrows", code.contains("->") || code.contains("::"), false);
        int line = 0;
        int begun = 0;
        for (String text : source.split("\n")) {
            line++;
            Kit.due("line " + line + " is short", text.length() <= 120, true);
            if (text.matches(" {4}( {4})?[a-zA-Z].*\\) \\{")) {
                begun = line;
            } else if (text.matches(" {4}( {4})?\\}") && begun > 0) {
                Kit.due("the method at line " + begun + " is short", line - begun < 60, true);
                begun = 0;
            }
        }
    }

    private static int wild(Random random) {
        switch (random.nextInt(6)) {
            case 0:
                return random.nextInt();
            case 1:
                return Integer.MIN_VALUE + random.nextInt(2);
            case 2:
                return Integer.MAX_VALUE - random.nextInt(2);
            default:
                return random.nextInt(130) - 10;
        }
    }

    private static void anyCall(BeeRegister x, Random random) {
        int a = wild(random);
        int b = wild(random);
        int c = wild(random);
        int u = random.nextInt(5) - 1;
        switch (random.nextInt(28)) {
            case 0: x.feed(a, b, c, a, b); break;
            case 1: x.end(a); break;
            case 2: if (random.nextInt(20) == 0) { x.map(); } break;
            case 3: x.fault(a); break;
            case 4: x.look(a, b); break;
            case 5: x.member(a, b, c); break;
            case 6: x.unit(); break;
            case 7: x.close(u, b); break;
            case 8: x.flush(a); break;
            case 9: x.outcome(a); break;
            case 10: x.write(a, b); break;
            case 11: x.make(u, b); break;
            case 12: x.find(u, b, c); break;
            case 13: x.object(a, b); break;
            case 14: x.value(a, b); break;
            case 15: x.put(a, b, c); break;
            case 16: x.link(a, b, c); break;
            case 17: x.size(a, b); break;
            case 18: x.item(a, b, c); break;
            case 19: x.drop(a); break;
            case 20: x.loads(a); break;
            case 21: x.other(a, b, c, u); break;
            case 22: x.cell(a, b, c); break;
            case 23: x.ask(u); break;
            case 24: x.found(a); break;
            case 25: x.make(u, random.nextInt(4)); break;
            case 26: x.flush(u); break;
            default: x.count(a);
        }
    }

    /** No call throws, whatever it is given. */
    private static void wildCalls() {
        for (int seed = 0; seed < 200; seed++) {
            Random random = new Random(seed);
            BeeRegister x = Kit.mapped("class A { a : to A owned ; l : list B by b owned ; } "
                    + "class B of A { b : to A must ; n : whole unique ; } class C { }");
            for (int i = 0; i < 1000; i++) {
                anyCall(x, random);
            }
            Kit.due("count", x.count(1) >= 0, true);
        }
    }

    /** All calls of a run live in one room: only the constructor makes objects. */
    private static void room() {
        com.sun.management.ThreadMXBean threads =
                (com.sun.management.ThreadMXBean) ManagementFactory.getThreadMXBean();
        if (!threads.isThreadAllocatedMemorySupported()) {
            return;
        }
        long made = 0;
        long called = 0;
        for (int round = 0; round < 3; round++) {
            long first = threads.getCurrentThreadAllocatedBytes();
            BeeRegister x = new BeeRegister();
            made = threads.getCurrentThreadAllocatedBytes() - first;
            Kit.map(x, "class A { n : whole ; a : to A owned ; l : list A by a owned ; hook change n + 1 ; }");
            int[] question = {0x41207768, 0x65726520, 0x6e203d20, 0x31206f72, 0x206e3d32};
            long second = threads.getCurrentThreadAllocatedBytes();
            x.unit();
            for (int i = 0; i < 40; i++) {
                x.make(0, 0);
                x.link(i, 1, i / 2);
                x.put(i, 0, i);
                x.feed(question[0], question[1], question[2], question[3], question[4]);
                x.ask(0);
                x.size(0, 2);
            }
            Kit.due("dropped", x.drop(0), 40);
            x.map();
            called = threads.getCurrentThreadAllocatedBytes() - second;
        }
        Kit.due("bytes of a constructor " + made, made < 1_000_000, true);
        Kit.due("bytes of calls " + called, called < 10_000, true);
    }

    public static void main(String[] args) throws java.io.IOException {
        face();
        words();
        wildCalls();
        room();
        Kit.finish();
    }
}

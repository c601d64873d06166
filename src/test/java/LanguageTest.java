import java.lang.management.ManagementFactory;
import java.lang.reflect.Constructor;
import java.lang.reflect.Field;
import java.lang.reflect.Method;
import java.lang.reflect.Modifier;
import java.nio.charset.StandardCharsets;
import java.nio.file.Files;
import java.nio.file.Path;
import java.util.ArrayList;
import java.util.Arrays;
import java.util.List;
import java.util.Set;
import java.util.TreeSet;

/** The face, the rules of LANGUAGE.md that can be seen from outside, and that no call takes up room. */
public final class LanguageTest {
    private static final String FACE = "public boolean known(int)|public boolean put(int,int)|public boolean touch(int,boolean)"
        + "|public int ahead(int,int,int)|public int back()|public int beats(int,int)|public int best(int)|public int bribe(int,int)"
        + "|public int censure(int)|public int chance(int,int,int)|public int count(int)|public int earn(int)|public int fault(int)"
        + "|public int feed(int,int,int,int,int)|public int file(int,int)|public int fork(int,int)|public int go(int)"
        + "|public int hums(int,int)|public int keep()|public int likely(int,int)|public int minute(int,boolean)"
        + "|public int motion(int,int) throws java.lang.IndexOutOfBoundsException,java.util.NoSuchElementException"
        + "|public int named(int,int)|public int open()|public int order(int,int)|public int out(int)|public int party(int,int)"
        + "|public int rest(int,int,int,int)|public int rests(int,int,int)|public int room(int,int)|public int struck(int,int)"
        + "|public int swing(int,int)|public int text(int)|public int tried(int,int,int)|public int undo()|public int wet(int)"
        + "|public int widths(int)|public long law(int,int,int)";
    private static int wrong = 0;

    private static void due(String what, Object got, Object want) {
        if (!got.equals(want)) {
            wrong++;
            System.out.println(what + ": " + got + ", due is " + want);
        }
    }

    public static void main(String[] args) throws Exception {
        face();
        classesInside();
        nothingIsNull(new ForkCouncil(), new ArrayList<>());
        source(Path.of(args[0], "src/main/java/ForkCouncil.java"));
        room();
        System.out.println(wrong == 0 ? "the language is kept to" : wrong + " rules are broken");
        if (wrong != 0) {
            System.exit(1);
        }
    }

    private static void face() throws Exception {
        Set<String> methods = new TreeSet<>();
        for (Method method : ForkCouncil.class.getDeclaredMethods()) {
            if (!Modifier.isPrivate(method.getModifiers())) {
                methods.add(method.toString().replace("ForkCouncil.", ""));
            }
        }
        due("methods", methods, new TreeSet<>(Arrays.asList(FACE.split("\\|"))));
        due("the class", ForkCouncil.class.getModifiers(), Modifier.PUBLIC | Modifier.FINAL);
        Constructor<?>[] constructors = ForkCouncil.class.getDeclaredConstructors();
        due("constructors", Arrays.toString(constructors), "[public ForkCouncil()]");
        for (Field field : ForkCouncil.class.getDeclaredFields()) {
            due("private " + field.getName(), Modifier.isPrivate(field.getModifiers()), !field.getName().equals("NONE"));
        }
        due("NONE", ForkCouncil.class.getField("NONE").toString(), "public static final int ForkCouncil.NONE");
    }

    private static void classesInside() {
        Class<?>[] inside = ForkCouncil.class.getDeclaredClasses();
        due("at most twelve classes", inside.length < 12, true);
        List<Class<?>> all = new ArrayList<>(Arrays.asList(inside));
        all.add(ForkCouncil.class);
        Set<String> open = new TreeSet<>();
        for (Method method : ForkCouncil.class.getDeclaredMethods()) {
            if (Modifier.isPublic(method.getModifiers())) {
                open.add(method.getName());
            }
        }
        for (Class<?> one : all) {
            int fields = 0;
            for (Field field : one.getDeclaredFields()) {
                fields += Modifier.isStatic(field.getModifiers()) ? 0 : 1;
                due(one + "'s static " + field.getName() + " is final",
                    Modifier.isStatic(field.getModifiers()) && !Modifier.isFinal(field.getModifiers()), false);
            }
            due(one + " has at most twenty fields", fields <= 20, true);
            due(one + " is static", one == ForkCouncil.class || Modifier.isStatic(one.getModifiers()), true);
            for (Method method : one.getDeclaredMethods()) {
                due(method + " takes at most seven", method.getParameterCount() <= 7, true);
                boolean clash = !Modifier.isPublic(method.getModifiers()) && open.contains(method.getName());
                due(method + " bears the name of a public one", clash, false);
            }
        }
    }

    /** Rule 7: what is never null needs no look before it is used. */
    private static void nothingIsNull(Object one, List<Object> seen) throws Exception {
        seen.add(one);
        for (Field field : one.getClass().getDeclaredFields()) {
            if (Modifier.isStatic(field.getModifiers()) || field.getType().isPrimitive()) {
                continue;
            }
            field.setAccessible(true);
            Object held = field.get(one);
            due(field + " of a new object is null", held == null, false);
            if (held != null && !held.getClass().isArray() && seen.stream().noneMatch(other -> other == held)) {
                nothingIsNull(held, seen);
            }
        }
    }

    private static void source(Path path) throws Exception {
        String source = Files.readString(path, StandardCharsets.US_ASCII);
        String[] banned = {"->", "::", "Exact(", "try ", "catch ", "finally", "synchronized", "assert ", "instanceof", "double",
            "float", "while (true)", "for (;;)", "Random", "nanoTime", "currentTime", "Thread", "static {", "\" +", "+ \""};
        for (String word : banned) {
            due(word, source.contains(word), false);
        }
        for (String line : source.split("\n")) {
            if (line.startsWith("import ")) {
                due(line, Set.of("import java.util.Arrays;", "import java.util.NoSuchElementException;").contains(line), true);
            }
        }
        methodLengths(source.split("\n"));
    }

    private static void methodLengths(String[] lines) {
        int start = 0;
        for (int i = 0; i < lines.length; i++) {
            if (lines[i].matches(" {4}( {4})?[a-zA-Z].*\\) (throws .*)?\\{")) {
                start = i;
            }
            if (lines[i].matches(" {4}( {4})?\\}")) {
                due("sixty lines at most before line " + (i + 1), i - start <= 60 || lines[i].matches(" {4}\\}"), true);
            }
        }
    }

    /** What the calls of a whole run make must stay far below the room that they all share. */
    private static void room() {
        com.sun.management.ThreadMXBean threads = (com.sun.management.ThreadMXBean) ManagementFactory.getThreadMXBean();
        if (!threads.isThreadAllocatedMemorySupported()) {
            return;
        }
        long answers = callAll(new ForkCouncil());
        ForkCouncil x = new ForkCouncil();
        long id = Thread.currentThread().getId();
        long before = threads.getThreadAllocatedBytes(id);
        for (int i = 0; i < 10; i++) {
            answers += callAll(x);
        }
        long made = threads.getThreadAllocatedBytes(id) - before;
        due("ten rounds of all calls make next to nothing (" + made + " bytes, " + answers + ")", made < 4096, true);
    }

    private static final byte[] TEXT = ("fork a 500 3 4 0;fork b 504 2 9 1;fork c 250 1 5 1;fork d 499 9 9 2;fork e 501 2 2 0;"
        + "motion m 500 1;motion n 502 2;motion o 498 4;wet 1;wet 4;rusty 1;law hum loud*(beats<=width);law pass loud>9+day;   ")
        .getBytes(StandardCharsets.US_ASCII);

    private static int four(int at) {
        int number = 0;
        for (int i = at; i < at + 4; i++) {
            number = number << 8 | (i < TEXT.length ? TEXT[i] : ' ');
        }
        return number;
    }

    private static long callAll(ForkCouncil x) {
        for (int i = 0; i < TEXT.length; i += 20) {
            x.feed(four(i), four(i + 4), four(i + 8), four(i + 12), four(i + 16));
        }
        long sum = x.text(TEXT.length);
        sum += x.fault(0) + x.named(0, 1 << 25) + x.motion(0, 2) + x.fork(0, 0) + x.wet(3) + x.beats(0, 400);
        sum += x.hums(0, 500) + x.struck(500, 1) + x.law(0, 0, 500) + x.file(0, 2) + x.earn(4) + x.ahead(9, 0, 0);
        sum += (x.touch(1, true) ? 1 : 0) + (x.put(0, 2) ? 1 : 0) + x.best(0) + x.open() + x.bribe(510, 4);
        sum += x.swing(0, 500) + x.censure(500) + x.party(1, 500) + x.rests(0, 1, 500) + x.rest(0, 1, 500, 0);
        sum += x.likely(0, 0) + x.order(4, 4) + x.room(0, 600) + x.minute(0, true) + x.out(0) + (x.known(1) ? 1 : 0);
        sum += x.widths(0) + x.chance(7, 9, 1) + x.tried(3, 0, 9) + x.undo() + x.keep() + x.go(9) + x.back();
        return sum + x.count(10);
    }
}

import java.lang.reflect.InvocationTargetException;
import java.lang.reflect.Method;
import java.nio.file.Files;
import java.nio.file.Path;
import java.util.ArrayList;
import java.util.Arrays;
import java.util.List;
import java.util.Map;
import java.util.TreeMap;
import java.util.regex.Matcher;
import java.util.regex.Pattern;

/** README.md: its calls answer what stands behind them, and its table has every call of the face. */
public final class ReadmeTest {
    private static final Pattern CALL = Pattern.compile("council\\.(\\w+)\\(([^)]*)\\); // (\\S+?)(:.*)?");
    private static final Pattern TELL = Pattern.compile("tell\\(council, (\".*\")\\); // (\\S+?)(:.*)?");
    private static final Pattern QUOTED = Pattern.compile("\"([^\"]*)\"");
    private static final Pattern ROW = Pattern.compile("\\| `(\\w+)\\(([^)]*)\\)` \\| .+ \\| (.+) \\|");
    private static final Pattern REFUSED = Pattern.compile("(?:throws )?`([^`]+)`.*");

    private static final Map<String, Method> FACE = new TreeMap<>();
    private static int wrong = 0;

    private static void due(String what, Object got, Object want) {
        if (!got.equals(want)) {
            wrong++;
            System.out.println(what + ": " + got + ", due is " + want);
        }
    }

    public static void main(String[] args) throws Exception {
        for (Method method : ForkCouncil.class.getDeclaredMethods()) {
            if (java.lang.reflect.Modifier.isPublic(method.getModifiers())) {
                FACE.put(method.getName(), method);
            }
        }
        List<String> readme = Files.readAllLines(Path.of(args[0], "README.md"));
        String own = Files.readString(Path.of(args[0], "src/test/java/ReadmeTest.java"));
        int ran = 0;
        for (List<String> block : blocksOf(readme)) {
            if (block.get(0).startsWith("static ")) {
                due("the README's tell() is the one of this test", own.contains("    " + String.join("\n    ", block)), true);
            } else {
                ran += play(block);
            }
        }
        due("README.md has calls (" + ran + ")", ran >= 35, true);
        table(readme);
        due("README.md says for how many calls", String.join("\n", readme).contains("512 calls"), true);
        System.out.println(wrong == 0 ? "the README holds" : wrong + " things of the README do not hold");
        if (wrong != 0) {
            System.exit(1);
        }
    }

    static int tell(ForkCouncil council, String text) {
        for (int at = 0; at < text.length(); at += 20) {
            int[] five = new int[5];
            for (int i = 0; i < 20; i++) {
                int sign = at + i < text.length() ? text.charAt(at + i) & 255 : ' ';
                five[i / 4] = five[i / 4] << 8 | sign;
            }
            council.feed(five[0], five[1], five[2], five[3], five[4]);
        }
        return council.text(text.length());
    }

    private static List<List<String>> blocksOf(List<String> readme) {
        List<List<String>> blocks = new ArrayList<>();
        List<String> block = null;
        for (String line : readme) {
            if (line.equals("```java")) {
                block = new ArrayList<>();
            } else if (line.equals("```") && block != null) {
                blocks.add(block);
                block = null;
            } else if (block != null) {
                block.add(line);
            }
        }
        return blocks;
    }

    /** A statement may go over several lines; its answer stands behind the last one. */
    private static int play(List<String> block) throws Exception {
        ForkCouncil council = new ForkCouncil();
        StringBuilder open = new StringBuilder();
        int ran = 0;
        for (String line : block) {
            open.append(line.strip().replaceAll("; +//", "; //"));
            if (!line.contains("//") && !line.endsWith(";")) {
                continue;
            }
            String statement = open.toString();
            open.setLength(0);
            if (statement.equals("ForkCouncil council = new ForkCouncil();")) {
                council = new ForkCouncil();
            } else {
                answer(council, statement);
                ran++;
            }
        }
        due("a statement without an end: " + open, open.length(), 0);
        return ran;
    }

    private static void answer(ForkCouncil council, String statement) throws Exception {
        Matcher told = TELL.matcher(statement);
        Matcher call = CALL.matcher(statement);
        if (told.matches()) {
            StringBuilder text = new StringBuilder();
            Matcher part = QUOTED.matcher(told.group(1));
            while (part.find()) {
                text.append(part.group(1));
            }
            due(statement, "" + tell(council, text.toString()), told.group(2));
        } else if (call.matches() && FACE.containsKey(call.group(1))) {
            due(statement, answerOf(council, FACE.get(call.group(1)), argumentsOf(call.group(2))), call.group(3));
        } else {
            due(statement, "can't be tested", "a call with its answer");
        }
    }

    private static Object[] argumentsOf(String list) {
        List<Object> arguments = new ArrayList<>();
        for (String one : list.isEmpty() ? new String[0] : list.split(", ")) {
            boolean truth = one.equals("true") || one.equals("false");
            arguments.add(truth ? (Object) one.equals("true") : (Object) Integer.decode(one));
        }
        return arguments.toArray();
    }

    private static String answerOf(ForkCouncil council, Method method, Object[] arguments) throws Exception {
        try {
            return "" + method.invoke(council, arguments);
        } catch (InvocationTargetException e) {
            return e.getCause().getClass().getSimpleName();
        }
    }

    private static void table(List<String> readme) throws Exception {
        List<String> rows = new ArrayList<>();
        for (String line : readme) {
            Matcher row = ROW.matcher(line);
            if (row.matches()) {
                rows.add(row.group(1));
                Method method = FACE.get(row.group(1));
                due(line + " is a call", method != null, true);
                if (method != null) {
                    int parameters = row.group(2).isEmpty() ? 0 : row.group(2).split(", ").length;
                    due(line + " takes", parameters, method.getParameterCount());
                    refused(method, row.group(3));
                }
            }
        }
        rows.sort(null);
        due("calls in the table", rows, new ArrayList<>(FACE.keySet()));
    }

    private static void refused(Method method, String cell) throws Exception {
        if (cell.equals("never")) {
            due(method + " takes nothing that could be refused", method.getParameterCount(), 0);
            return;
        }
        ForkCouncil council = new ForkCouncil();
        for (int i = 0; i < 35; i++) {
            council.feed(0, 0, 0, 0, 0);
        }
        Object[] least = new Object[method.getParameterCount()];
        Arrays.setAll(least, i -> method.getParameterTypes()[i] == boolean.class ? (Object) true : (Object) Integer.MIN_VALUE);
        Matcher found = REFUSED.matcher(cell);
        String want = found.matches() ? found.group(1) : "an answer in the README";
        want = want.replace("Long.MIN_VALUE", "" + Long.MIN_VALUE).replace("Integer.MIN_VALUE", "" + Integer.MIN_VALUE);
        due(method.getName() + " when refused", answerOf(council, method, least), want);
    }
}

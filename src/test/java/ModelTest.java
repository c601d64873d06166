import java.lang.reflect.InvocationTargetException;
import java.lang.reflect.Method;
import java.lang.reflect.Modifier;
import java.math.BigInteger;
import java.nio.charset.StandardCharsets;
import java.util.ArrayList;
import java.util.Arrays;
import java.util.Comparator;
import java.util.HashMap;
import java.util.HashSet;
import java.util.List;
import java.util.Map;
import java.util.NoSuchElementException;
import java.util.Random;
import java.util.Set;
import java.util.TreeMap;
import java.util.regex.Matcher;
import java.util.regex.Pattern;

/**
 * Plays random runs of calls against a model that follows the document's words as slowly and as
 * plainly as it can: it tries every choice where the class takes a shorter way.
 */
public final class ModelTest {
    private static final int RUNS = 400;
    private static final int CALLS = 120;

    public static void main(String[] args) throws Exception {
        int runs = args.length > 1 ? Integer.parseInt(args[1]) : RUNS;
        Method[] methods = methods();
        Map<String, Set<Long>> answers = new TreeMap<>();
        Map<Integer, Integer> faults = new TreeMap<>();
        int wrong = 0;
        for (int run = 0; run < runs && wrong == 0; run++) {
            wrong += play(run, methods, answers, faults);
        }
        System.out.println("faults by kind: " + faults);
        for (Method method : methods) {
            Set<Long> seen = answers.getOrDefault(method.getName(), Set.of());
            if (wrong == 0 && seen.size() < 2) {
                System.out.println(method.getName() + " never answered but " + seen);
                wrong++;
            }
        }
        System.out.println(wrong == 0 ? "the model agrees" : "the model does not agree");
        if (wrong != 0) {
            System.exit(1);
        }
    }

    private static Method[] methods() {
        List<Method> found = new ArrayList<>();
        for (Method method : ForkCouncil.class.getDeclaredMethods()) {
            if (Modifier.isPublic(method.getModifiers())) {
                found.add(method);
            }
        }
        found.sort(Comparator.comparing(Method::getName));
        return found.toArray(new Method[0]);
    }

    private static int play(int run, Method[] methods, Map<String, Set<Long>> answers,
            Map<Integer, Integer> faults) throws Exception {
        Random random = new Random(run);
        ForkCouncil council = new ForkCouncil();
        Model model = new Model();
        List<String> log = new ArrayList<>();
        for (int call = 0; call < CALLS; call++) {
            if (call == 0 || random.nextInt(40) == 0) {
                String text = new Writer(random).text();
                log.add("TEXT " + text);
                String due = readInto(text, (a, b, c, d, e) -> model.feed(a, b, c, d, e), n -> model.text(n));
                String got = readInto(text, (a, b, c, d, e) -> council.feed(a, b, c, d, e), n -> council.text(n));
                due += " " + model.fault(0) + " " + model.fault(1);
                got += " " + council.fault(0) + " " + council.fault(1);
                faults.merge(model.fault(0), 1, Integer::sum);
                if (!due.equals(got)) {
                    return tell(run, log, got, due);
                }
                continue;
            }
            Method method = methods[random.nextInt(methods.length)];
            Object[] args = new Caller(random, model).argsOf(method);
            long due = invoke(model, Model.class.getMethod(method.getName(), method.getParameterTypes()), args);
            long got = invoke(council, method, args);
            log.add(method.getName() + Arrays.toString(args) + " = " + due);
            answers.computeIfAbsent(method.getName(), k -> new HashSet<>()).add(due);
            if (due != got) {
                return tell(run, log, "" + got, "" + due);
            }
        }
        return 0;
    }

    private static int tell(int run, List<String> log, String got, String due) {
        System.out.println("run " + run);
        log.forEach(System.out::println);
        System.out.println("answered " + got + ", due is " + due);
        return 1;
    }

    interface Feed {
        int feed(int a, int b, int c, int d, int e);
    }

    interface Take {
        int text(int n);
    }

    private static String readInto(String text, Feed feed, Take take) {
        StringBuilder answers = new StringBuilder();
        byte[] bytes = Arrays.copyOf(text.getBytes(StandardCharsets.ISO_8859_1), (text.length() + 19) / 20 * 20);
        // What a run left on the tape must not stand ahead of the text.
        take.text(0);
        for (int i = 0; i < bytes.length; i += 20) {
            int[] n = new int[5];
            for (int j = 0; j < 20; j++) {
                n[j / 4] = n[j / 4] << 8 | bytes[i + j] & 255;
            }
            answers.append(feed.feed(n[0], n[1], n[2], n[3], n[4])).append(' ');
        }
        return answers.append(take.text(text.length())).toString();
    }

    private static long invoke(Object on, Method method, Object[] args) throws Exception {
        try {
            Object answer = method.invoke(on, args);
            if (answer instanceof Boolean) {
                return (Boolean) answer ? 1 : 0;
            }
            return ((Number) answer).longValue();
        } catch (InvocationTargetException e) {
            if (e.getCause().getClass() == IndexOutOfBoundsException.class) {
                return -1001;
            }
            if (e.getCause().getClass() == NoSuchElementException.class) {
                return -1002;
            }
            throw e;
        }
    }

    /** Chooses arguments that mostly make sense. */
    private static final class Caller {
        private final Random random;
        private final Model model;

        Caller(Random random, Model model) {
            this.random = random;
            this.model = model;
        }

        private int upTo(int least, int most) {
            return least + random.nextInt(most - least + 1);
        }

        private int odd(int usual) {
            if (random.nextInt(25) != 0) {
                return usual;
            }
            int[] odds = {-1, -2, 100, 99, 999, 1000, 9999, 10000, Integer.MAX_VALUE, Integer.MIN_VALUE, 4, 8, 10};
            return odds[random.nextInt(odds.length)];
        }

        private int fork() {
            return odd(random.nextInt(Math.max(1, model.count(0))));
        }

        private int motion() {
            return odd(random.nextInt(Math.max(1, model.count(1))));
        }

        private int note() {
            int forks = model.count(0);
            int note = upTo(100, 999);
            if (forks > 0 && random.nextInt(8) != 0) {
                note = model.fork(random.nextInt(forks), 0) + upTo(-12, 12);
                note = random.nextInt(4) == 0 ? note * 2 : random.nextInt(4) == 0 ? note / 2 : note;
            }
            return odd(note);
        }

        private int letters() {
            List<String> names = new ArrayList<>(List.of("zz", "fork", "a"));
            model.now.forks.forEach(fork -> names.add(fork.name));
            model.now.motions.forEach(motion -> names.add(motion.name));
            String name = names.get(random.nextInt(names.size()));
            int letters = 0;
            for (int i = 0; i < 6; i++) {
                letters = letters * 32 + (i < name.length() ? name.charAt(i) - 'a' + 1 : 0);
            }
            return odd(letters);
        }

        Object[] argsOf(Method method) {
            int[] chosen = choose(method.getName());
            Class<?>[] types = method.getParameterTypes();
            Object[] args = new Object[types.length];
            for (int i = 0; i < args.length; i++) {
                args[i] = types[i] == boolean.class ? (Object) (chosen[i] != 0) : (Object) chosen[i];
            }
            return args;
        }

        private int[] choose(String name) {
            int span = odd(random.nextInt(3) == 0 ? upTo(0, 99) : upTo(0, 6));
            int bit = upTo(0, 1);
            switch (name) {
                case "feed": {
                    int blank = 0x20202020;
                    return new int[] {blank, blank, random.nextInt(), blank, blank};
                }
                case "text": return new int[] {random.nextInt(3) == 0 ? upTo(-1, 701) : -1};
                case "fault": return new int[] {odd(bit)};
                case "named": return new int[] {odd(bit), letters()};
                case "motion": return new int[] {motion(), odd(upTo(0, 3))};
                case "fork": return new int[] {fork(), odd(upTo(0, 5))};
                case "wet": return new int[] {odd(upTo(0, 9999))};
                case "beats": case "hums": case "swing": case "room": return new int[] {fork(), note()};
                case "struck": return new int[] {note(), odd(upTo(0, 2))};
                case "law": return new int[] {odd(upTo(0, 2)), fork(), note()};
                case "touch": return new int[] {fork(), random.nextInt(4) == 0 ? 0 : 1};
                case "file": return new int[] {fork(), odd(random.nextInt(3) == 0 ? upTo(-100, 100) : upTo(-3, 3))};
                case "put": return new int[] {motion(), odd(model.count(5) + upTo(-1, 6))};
                case "earn": return new int[] {odd(upTo(0, 100))};
                case "go": return new int[] {random.nextInt(4) == 0 ? span : odd(upTo(0, 2))};
                case "ahead": return new int[] {span, odd(upTo(0, 3)), fork()};
                case "best": return new int[] {odd(bit)};
                case "bribe": return new int[] {note(), odd(upTo(0, 4))};
                case "censure": return new int[] {note()};
                case "party": return new int[] {odd(upTo(0, 3)), note()};
                case "rests": return new int[] {fork(), fork(), note()};
                case "rest": return new int[] {fork(), fork(), note(), odd(upTo(0, 3))};
                case "likely": return new int[] {motion(), odd(bit)};
                case "order": return new int[] {odd(upTo(1, 4)), odd(upTo(0, 4))};
                case "minute": return new int[] {motion(), bit};
                case "out": return new int[] {odd(upTo(0, Math.max(0, model.count(12) - 1)))};
                case "known": return new int[] {odd(upTo(-1, model.count(12)))};
                case "widths": return new int[] {fork()};
                case "chance": return new int[] {random.nextInt() >>> (random.nextInt(12) == 0 ? 0 : 1),
                    random.nextInt(2) == 0 ? upTo(0, 100) : upTo(1, 9), odd(upTo(0, 3))};
                case "tried": {
                    int what = odd(upTo(0, 5));
                    return new int[] {what, what == 2 ? fork() : odd(0), span};
                }
                case "count": return new int[] {odd(upTo(0, 14))};
                default: return new int[0];
            }
        }
    }

    /** Writes texts, most of them without a fault. */
    private static final class Writer {
        private static final String[] NAMES = {"pitch", "note", "width", "loud", "beats", "damp", "day"};
        private static final String[] SIGNS = {"+", "-", "*", "/", "<", "<=", "=", "<>", ">=", ">", "and", "or"};
        private final Random random;

        Writer(Random random) {
            this.random = random;
        }

        private int upTo(int least, int most) {
            return least + random.nextInt(most - least + 1);
        }

        private String word() {
            StringBuilder word = new StringBuilder();
            int length = random.nextInt(3) == 0 ? upTo(1, 6) : 2;
            for (int i = 0; i < length; i++) {
                word.append((char) ('a' + random.nextInt(random.nextInt(5) == 0 ? 26 : 4)));
            }
            return word.toString();
        }

        String text() {
            List<String> lines = new ArrayList<>();
            List<String> forks = new ArrayList<>();
            int base = upTo(100, 900);
            int count = random.nextInt(8) == 0 ? upTo(7, 9) : upTo(0, 6);
            for (int i = 0; i < count; i++) {
                forks.add(word());
                int pitch = Math.min(999, Math.max(100, base + upTo(-9, 9)));
                pitch = random.nextInt(5) == 0 && pitch < 500 ? pitch * 2 : pitch;
                lines.add("fork " + forks.get(i) + " " + pitch + " " + upTo(0, random.nextInt(3) == 0 ? 99 : 9)
                    + " " + upTo(0, 9) + " " + upTo(0, 3));
            }
            int motions = random.nextInt(20) == 0 ? upTo(9, 11) : upTo(0, 7);
            for (int i = 0; i < motions; i++) {
                int note = Math.min(999, Math.max(100, base + upTo(-12, 9)));
                note = random.nextInt(6) == 0 && note < 500 ? note * 2 : note;
                lines.add("motion " + word() + " " + note + " " + upTo(0, random.nextInt(6) == 0 ? 99 : 6));
            }
            some(lines, forks);
            laws(lines);
            if (random.nextInt(3) == 0) {
                java.util.Collections.shuffle(lines, random);
            }
            String text = lines.isEmpty() ? "" : String.join(random.nextBoolean() ? ";" : " ;\n", lines) + ";";
            text = random.nextInt(5) == 0 ? spoilt(text) : text;
            return text.length() > 700 ? text.substring(0, 700) : text;
        }

        private void some(List<String> lines, List<String> forks) {
            for (String fork : forks) {
                if (random.nextInt(8) == 0) {
                    lines.add("crack " + fork);
                }
            }
            if (random.nextInt(3) != 0) {
                lines.add("table " + upTo(1, 25));
            }
            int wets = random.nextInt(9) == 0 ? upTo(7, 9) : upTo(0, 4);
            for (int i = 0; i < wets; i++) {
                lines.add("wet " + upTo(0, 9));
            }
            if (random.nextInt(2) == 0) {
                lines.add("purse " + upTo(0, 999) + " " + upTo(0, random.nextInt(3) == 0 ? 99 : 9));
            }
            if (random.nextInt(2) == 0) {
                lines.add("rusty " + upTo(0, random.nextInt(3) == 0 ? 9 : 2));
            }
            if (random.nextInt(6) == 0) {
                lines.add("seed " + upTo(0, 99999));
            }
        }

        private void laws(List<String> lines) {
            for (String rule : new String[] {"hum", "rust", "pass"}) {
                if (random.nextInt(5) < 2) {
                    lines.add("law " + rule + " " + expression(rule));
                }
            }
        }

        private String expression(String rule) {
            String[] plain = {"9-beats", "loud*(beats<=width)", "loud>9", "loud>=7+day", "day/2", "damp", "12-beats*2+damp",
                "loud/(beats-3)", "pitch/300", "not damp", "loud-day and note>200", "99/beats", "loud=12 or loud>20"};
            if (random.nextInt(2) == 0) {
                return plain[random.nextInt(plain.length)];
            }
            return random.nextInt(12) == 0 ? deep() : tree(upTo(0, 4));
        }

        private String deep() {
            int open = upTo(7, 9);
            return "(".repeat(open) + tree(1) + ")".repeat(open);
        }

        private String tree(int height) {
            if (height == 0 || random.nextInt(6) == 0) {
                return random.nextInt(3) == 0 ? "" + upTo(0, random.nextInt(9) == 0 ? 10000 : 20)
                    : NAMES[random.nextInt(NAMES.length)];
            }
            if (random.nextInt(8) == 0) {
                return "(not " + tree(height - 1) + ")";
            }
            String sign = SIGNS[random.nextInt(SIGNS.length)];
            String joined = tree(height - 1) + " " + sign + " " + tree(height - 1);
            return random.nextInt(4) == 0 ? joined : "(" + joined + ")";
        }

        private String spoilt(String text) {
            StringBuilder spoilt = new StringBuilder(text);
            String[] bits = {";", " ", "fork", "9", "(", ")", "<", "=", ">", "abcdefg", "A", "not", "and", "1000", "table 3;",
                "law hum 1;", "crack b;", "\t", "" + (char) 200, "" + (char) 0, "day", "wet 1;", "+", "hum"};
            for (int i = upTo(1, 2); i > 0; i--) {
                int at = random.nextInt(spoilt.length() + 1);
                if (random.nextBoolean() && at < spoilt.length()) {
                    spoilt.delete(at, Math.min(spoilt.length(), at + upTo(1, 6)));
                } else {
                    spoilt.insert(at, bits[random.nextInt(bits.length)]);
                }
            }
            return spoilt.toString();
        }
    }

    @SuppressWarnings("serial")
    private static final class Fault extends RuntimeException {
        final int kind;
        final int place;

        Fault(int kind, int place) {
            this.kind = kind;
            this.place = place;
        }
    }

    @SuppressWarnings("serial")
    private static final class LawError extends RuntimeException {
    }

    interface Knot {
        BigInteger of(Map<String, Integer> names);
    }

    private static final class Fork {
        String name;
        int pitch, width, loud, party;
        boolean cracked, touched;

        Fork copy() {
            Fork copy = new Fork();
            copy.name = name;
            copy.pitch = pitch;
            copy.width = width;
            copy.loud = loud;
            copy.party = party;
            copy.cracked = cracked;
            copy.touched = touched;
            return copy;
        }
    }

    private static final class Motion {
        String name;
        int note, day, verdict = -1, heard = -1;

        Motion copy() {
            Motion copy = new Motion();
            copy.name = name;
            copy.note = note;
            copy.day = day;
            copy.verdict = verdict;
            copy.heard = heard;
            return copy;
        }
    }

    /** One state of the council, with all that the text told; copied whole wherever something is tried. */
    private static final class Hall {
        List<Fork> forks = new ArrayList<>();
        List<Motion> motions = new ArrayList<>();
        List<Integer> wets = new ArrayList<>();
        Map<String, Knot> laws = new HashMap<>();
        int table = 10, purse = 100, price = 5, rusty, knots, lines, day, paid;
        boolean noRust;
        Integer wetToday;

        Hall copy() {
            Hall copy = new Hall();
            forks.forEach(fork -> copy.forks.add(fork.copy()));
            motions.forEach(motion -> copy.motions.add(motion.copy()));
            copy.wets.addAll(wets);
            copy.laws.putAll(laws);
            copy.table = table;
            copy.purse = purse;
            copy.price = price;
            copy.rusty = rusty;
            copy.knots = knots;
            copy.lines = lines;
            copy.day = day;
            copy.paid = paid;
            copy.noRust = noRust;
            copy.wetToday = wetToday;
            return copy;
        }

        int wet(int ofDay) {
            return wets.isEmpty() ? 0 : wets.get(ofDay % wets.size());
        }

        int damp() {
            return wetToday != null ? wetToday : wet(day);
        }

        int beats(Fork fork, int note) {
            int pitch = Math.max(1, fork.pitch - damp());
            int[] far = {Math.abs(pitch - note), Math.abs(2 * pitch - note), Math.abs(pitch - 2 * note)};
            Arrays.sort(far);
            return far[0];
        }

        Map<String, Integer> names(Fork fork, int note, int loud, int beats) {
            Map<String, Integer> names = new HashMap<>();
            names.put("pitch", fork == null ? 0 : Math.max(1, fork.pitch - damp()));
            names.put("note", note);
            names.put("width", fork == null ? 0 : fork.width);
            names.put("loud", loud);
            names.put("beats", beats);
            names.put("damp", damp());
            names.put("day", day);
            return names;
        }

        Long law(String rule, Map<String, Integer> names) {
            if (!laws.containsKey(rule)) {
                return null;
            }
            try {
                return laws.get(rule).of(names).longValueExact();
            } catch (LawError e) {
                return null;
            }
        }

        Long humLaw(Fork fork, int note) {
            return law("hum", names(fork, note, fork.loud, beats(fork, note)));
        }

        Long rustLaw(Fork fork) {
            return law("rust", names(fork, 0, fork.loud, 0));
        }

        int hums(Fork fork, int note) {
            if (fork.touched) {
                return 0;
            }
            Long value = humLaw(fork, note);
            if (value == null) {
                return beats(fork, note) <= fork.width || fork.cracked ? fork.loud : 0;
            }
            return (int) (value < 0 ? 0 : value > 99 ? 99 : value);
        }

        int all(int note) {
            return forks.stream().mapToInt(fork -> hums(fork, note)).sum();
        }

        boolean carried(int note) {
            Long value = law("pass", names(null, note, all(note), 0));
            return value == null ? all(note) >= table : value != 0;
        }

        void goByOne() {
            for (Motion motion : motions) {
                if (motion.day == day && motion.verdict < 0) {
                    motion.verdict = carried(motion.note) ? 1 : 0;
                    motion.heard = all(motion.note);
                }
            }
            for (Fork fork : forks) {
                Long value = rustLaw(fork);
                long rust = value == null ? rusty : value < 0 ? 0 : value > 9 ? 9 : value;
                fork.pitch = (int) Math.max(100, fork.pitch - (noRust ? 0 : rust));
            }
            forks.forEach(fork -> fork.touched = false);
            day++;
        }

        Hall after(int days) {
            Hall then = copy();
            for (int i = 0; i < days; i++) {
                then.goByOne();
            }
            return then;
        }

        int verdicts(int verdict) {
            return (int) motions.stream().filter(motion -> motion.verdict == verdict).count();
        }

        int heard() {
            return motions.stream().filter(motion -> motion.verdict >= 0).mapToInt(motion -> motion.heard).sum();
        }
    }

    /** Reads a text: first all tokens, then lines. */
    private static final class Parser {
        private static final Set<String> LANGUAGE = Set.of("fork", "crack", "motion", "table", "wet", "purse", "rusty",
            "seed", "law", "hum", "rust", "pass", "or", "and", "not", "pitch", "note", "width", "loud", "beats", "damp", "day");
        private static final Set<String> NAMES = Set.of("pitch", "note", "width", "loud", "beats", "damp", "day");
        private static final BigInteger MOST = BigInteger.TEN.pow(12);
        private final List<String> tokens = new ArrayList<>();
        private final List<Integer> places = new ArrayList<>();
        private final Set<String> told = new HashSet<>();
        private final Hall hall = new Hall();
        private int at;
        private int open;

        Parser(String text) {
            Matcher matcher = Pattern.compile("[a-z]+|[0-9]+|<=|>=|<>|[^ \\n]", Pattern.DOTALL).matcher(text);
            while (matcher.find()) {
                tokens.add(matcher.group());
                places.add(matcher.start());
            }
            tokens.add("");
            places.add(text.length());
        }

        private String token() {
            return tokens.get(at);
        }

        private Fault fault(int kind) {
            return new Fault(kind, places.get(at));
        }

        private void due(String token) {
            if (!token().equals(token)) {
                throw fault(1);
            }
            at++;
        }

        Hall read() {
            while (!token().isEmpty()) {
                line();
                due(";");
                hall.lines++;
            }
            return hall;
        }

        private void line() {
            String word = token();
            if (!Set.of("fork", "crack", "motion", "table", "wet", "purse", "rusty", "seed", "law").contains(word)) {
                throw fault(1);
            }
            if (word.equals("fork") && hall.forks.size() == 8 || word.equals("motion") && hall.motions.size() == 10
                || word.equals("wet") && hall.wets.size() == 8) {
                throw fault(2);
            }
            if (Set.of("table", "purse", "rusty", "seed").contains(word) && !told.add(word)) {
                throw fault(3);
            }
            at++;
            switch (word) {
                case "fork": fork(); break;
                case "crack": crack(); break;
                case "motion": motion(); break;
                case "table": hall.table = number(1, 99); break;
                case "wet": hall.wets.add(number(0, 9)); break;
                case "purse": hall.purse = number(0, 999); hall.price = number(0, 99); break;
                case "rusty": hall.rusty = number(0, 9); break;
                case "seed": number(0, 99999); break;
                default: law(); break;
            }
        }

        private int number(int least, int most) {
            if (!token().matches("[0-9]+")) {
                throw fault(1);
            }
            BigInteger value = new BigInteger(token());
            if (value.compareTo(BigInteger.valueOf(least)) < 0 || value.compareTo(BigInteger.valueOf(most)) > 0) {
                throw fault(2);
            }
            at++;
            return value.intValue();
        }

        private String word() {
            if (!token().matches("[a-z]{1,6}") || LANGUAGE.contains(token())) {
                throw fault(1);
            }
            return token();
        }

        private void fork() {
            Fork fork = new Fork();
            fork.name = word();
            if (hall.forks.stream().anyMatch(other -> other.name.equals(fork.name))) {
                throw fault(3);
            }
            at++;
            fork.pitch = number(100, 999);
            fork.width = number(0, 99);
            fork.loud = number(0, 9);
            fork.party = number(0, 3);
            hall.forks.add(fork);
        }

        private void crack() {
            String name = word();
            Fork fork = hall.forks.stream().filter(one -> one.name.equals(name)).findFirst().orElse(null);
            if (fork == null) {
                throw fault(4);
            }
            if (fork.cracked) {
                throw fault(3);
            }
            fork.cracked = true;
            at++;
        }

        private void motion() {
            Motion motion = new Motion();
            motion.name = word();
            if (hall.motions.stream().anyMatch(other -> other.name.equals(motion.name))) {
                throw fault(3);
            }
            at++;
            motion.note = number(100, 999);
            motion.day = number(0, 99);
            hall.motions.add(motion);
        }

        private void law() {
            String rule = token();
            if (!Set.of("hum", "rust", "pass").contains(rule)) {
                throw fault(1);
            }
            if (hall.laws.containsKey(rule)) {
                throw fault(3);
            }
            at++;
            open = 0;
            hall.laws.put(rule, expression());
        }

        private String knot() {
            if (hall.knots == 64) {
                throw fault(2);
            }
            hall.knots++;
            return tokens.get(at++);
        }

        private static BigInteger bit(boolean is) {
            return is ? BigInteger.ONE : BigInteger.ZERO;
        }

        private static BigInteger held(BigInteger value) {
            if (value.abs().compareTo(MOST) > 0) {
                throw new LawError();
            }
            return value;
        }

        private Knot joined(Knot left, String sign, Knot right) {
            return names -> {
                BigInteger one = left.of(names);
                BigInteger two = right.of(names);
                int order = one.compareTo(two);
                switch (sign) {
                    case "+": return held(one.add(two));
                    case "-": return held(one.subtract(two));
                    case "*": return held(one.multiply(two));
                    case "/":
                        if (two.signum() == 0) {
                            throw new LawError();
                        }
                        return one.divide(two);
                    case "<": return bit(order < 0);
                    case "<=": return bit(order <= 0);
                    case "=": return bit(order == 0);
                    case "<>": return bit(order != 0);
                    case ">=": return bit(order >= 0);
                    case ">": return bit(order > 0);
                    case "and": return bit(one.signum() != 0 && two.signum() != 0);
                    default: return bit(one.signum() != 0 || two.signum() != 0);
                }
            };
        }

        private Knot expression() {
            Knot left = both();
            while (token().equals("or")) {
                left = joined(left, knot(), both());
            }
            return left;
        }

        private Knot both() {
            Knot left = denial();
            while (token().equals("and")) {
                left = joined(left, knot(), denial());
            }
            return left;
        }

        private Knot denial() {
            if (token().equals("not")) {
                knot();
                Knot denied = denial();
                return names -> bit(denied.of(names).signum() == 0);
            }
            Knot left = sum();
            if (Set.of("<", "<=", "=", "<>", ">=", ">").contains(token())) {
                left = joined(left, knot(), sum());
            }
            return left;
        }

        private Knot sum() {
            Knot left = product();
            while (token().equals("+") || token().equals("-")) {
                left = joined(left, knot(), product());
            }
            return left;
        }

        private Knot product() {
            Knot left = part();
            while (token().equals("*") || token().equals("/")) {
                left = joined(left, knot(), part());
            }
            return left;
        }

        private Knot part() {
            if (token().equals("(")) {
                if (open == 8) {
                    throw fault(2);
                }
                open++;
                at++;
                Knot inner = expression();
                due(")");
                open--;
                return inner;
            }
            if (NAMES.contains(token())) {
                String name = knot();
                return names -> BigInteger.valueOf(names.get(name));
            }
            int value = number(0, 9999);
            at--;
            knot();
            return names -> BigInteger.valueOf(value);
        }
    }

    /** The face, by the document's words. */
    public static final class Model {
        private final List<Byte> tape = new ArrayList<>();
        Hall now = new Hall();
        private Hall first = new Hall();
        private Hall image;
        private final List<Runnable> deeds = new ArrayList<>();
        private final List<int[]> minutes = new ArrayList<>();
        private int knownBy = -1;
        private int fault;
        private int place = -1;

        private boolean isFork(int fork) {
            return fork >= 0 && fork < now.forks.size();
        }

        private boolean isMotion(int motion) {
            return motion >= 0 && motion < now.motions.size();
        }

        private boolean isNote(int note) {
            return note >= 100 && note <= 999;
        }

        private Fork forkOf(int fork) {
            return now.forks.get(fork);
        }

        public int feed(int a, int b, int c, int d, int e) {
            if (tape.size() + 20 > 700) {
                return -1;
            }
            for (int number : new int[] {a, b, c, d, e}) {
                for (int i = 3; i >= 0; i--) {
                    tape.add((byte) (number >> 8 * i));
                }
            }
            return tape.size();
        }

        public int text(int n) {
            if (n < 0 || n > tape.size()) {
                return -2;
            }
            StringBuilder text = new StringBuilder();
            for (int i = 0; i < n; i++) {
                text.append((char) (tape.get(i) & 255));
            }
            tape.clear();
            fault = 0;
            place = -1;
            try {
                now = new Parser(text.toString()).read();
            } catch (Fault found) {
                fault = found.kind;
                place = found.place;
                return -1;
            }
            first = now.copy();
            image = null;
            deeds.clear();
            minutes.clear();
            knownBy = -1;
            return now.lines;
        }

        public int fault(int what) {
            return what == 0 ? fault : what == 1 ? place : -1;
        }

        public int named(int what, int letters) {
            List<String> names = new ArrayList<>();
            if (what == 0) {
                now.forks.forEach(fork -> names.add(fork.name));
            } else if (what == 1) {
                now.motions.forEach(motion -> names.add(motion.name));
            }
            for (int i = 0; i < names.size(); i++) {
                int code = 0;
                for (int j = 0; j < 6; j++) {
                    code = code * 32 + (j < names.get(i).length() ? names.get(i).charAt(j) - 96 : 0);
                }
                if (code == letters) {
                    return i;
                }
            }
            return -1;
        }

        public int motion(int motion, int what) {
            if (!isMotion(motion)) {
                throw new IndexOutOfBoundsException();
            }
            Motion of = now.motions.get(motion);
            if (what < 0 || what > 3) {
                throw new NoSuchElementException();
            }
            return new int[] {of.note, of.day, of.verdict, of.heard}[what];
        }

        public int fork(int fork, int what) {
            if (!isFork(fork) || what < 0 || what > 5) {
                return -1;
            }
            Fork of = forkOf(fork);
            return new int[] {of.pitch, of.width, of.loud, of.party, of.cracked ? 1 : 0, of.touched ? 1 : 0}[what];
        }

        public int wet(int day) {
            return day < 0 || day > 9999 ? -1 : now.wet(day);
        }

        public int beats(int fork, int note) {
            return isFork(fork) && isNote(note) ? now.beats(forkOf(fork), note) : -1;
        }

        public int hums(int fork, int note) {
            return isFork(fork) && isNote(note) ? now.hums(forkOf(fork), note) : -1;
        }

        public int struck(int note, int what) {
            if (!isNote(note) || what < 0 || what > 2) {
                return -1;
            }
            int agreed = (int) now.forks.stream().filter(fork -> now.hums(fork, note) > 0).count();
            return new int[] {now.all(note), now.carried(note) ? 1 : 0, agreed}[what];
        }

        public long law(int what, int fork, int note) {
            Long value = null;
            if (what == 0 && isFork(fork) && isNote(note)) {
                value = now.humLaw(forkOf(fork), note);
            } else if (what == 1 && isFork(fork)) {
                value = now.rustLaw(forkOf(fork));
            } else if (what == 2 && isNote(note)) {
                value = now.law("pass", now.names(null, note, now.all(note), 0));
            }
            return value == null ? Long.MIN_VALUE : value;
        }

        private void did(Runnable undoing) {
            deeds.add(undoing);
            if (deeds.size() > 20) {
                deeds.remove(0);
            }
        }

        public boolean touch(int fork, boolean is) {
            if (!isFork(fork) || forkOf(fork).touched == is) {
                return false;
            }
            forkOf(fork).touched = is;
            did(() -> forkOf(fork).touched = !is);
            return true;
        }

        public int file(int fork, int by) {
            if (!isFork(fork) || by < -99 || by > 99 || by == 0 || !isNote(forkOf(fork).pitch + by)) {
                return -1;
            }
            int cost = now.price * Math.abs(by);
            if (cost > now.purse) {
                return -2;
            }
            int pitch = forkOf(fork).pitch;
            int purse = now.purse;
            int paid = now.paid;
            forkOf(fork).pitch += by;
            now.purse -= cost;
            now.paid += cost;
            did(() -> {
                forkOf(fork).pitch = pitch;
                now.purse = purse;
                now.paid = paid;
            });
            return pitch + by;
        }

        public boolean put(int motion, int day) {
            if (!isMotion(motion) || day < now.day || day > 9999) {
                return false;
            }
            Motion of = now.motions.get(motion);
            int old = of.day;
            if (of.verdict >= 0 || old == day) {
                return false;
            }
            of.day = day;
            did(() -> now.motions.get(motion).day = old);
            return true;
        }

        public int earn(int pence) {
            if (pence < 1 || pence > 99 || now.purse + pence > 9999) {
                return -1;
            }
            int purse = now.purse;
            now.purse += pence;
            did(() -> now.purse = purse);
            return now.purse;
        }

        public int go(int n) {
            if (n < 0 || n > 99 || now.day + n > 9900) {
                return -1;
            }
            now = now.after(n);
            if (n > 0) {
                deeds.clear();
            }
            return now.day;
        }

        public int ahead(int n, int what, int fork) {
            if (n < 0 || n > 99 || what < 0 || what > 3 || what == 3 && !isFork(fork)) {
                return -1;
            }
            Hall then = now.after(n);
            switch (what) {
                case 0: return then.verdicts(1) - now.verdicts(1);
                case 1: return then.verdicts(0) - now.verdicts(0);
                case 2: return then.heard() - now.heard();
                default: return then.forks.get(fork).pitch;
            }
        }

        public int best(int what) {
            if (what != 0 && what != 1) {
                return -1;
            }
            int best = 999;
            for (int note = 998; note >= 100; note--) {
                best = now.all(note) >= now.all(best) ? note : best;
            }
            return what == 0 ? best : now.all(best);
        }

        public int open() {
            int open = 0;
            for (int note = 100; note <= 999; note++) {
                open += now.carried(note) ? 1 : 0;
            }
            return open;
        }

        public int bribe(int note, int what) {
            if (!isNote(note) || what < 0 || what > 4) {
                return Integer.MIN_VALUE;
            }
            int count = Math.min(4, now.forks.size());
            if (what < 4 && what >= count) {
                return -9;
            }
            int[] found = new int[5];
            found[4] = -8;
            tryBribe(now.copy(), note, 0, new int[4], found);
            return found[4] == -8 ? -8 : found[what];
        }

        private void tryBribe(Hall hall, int note, int fork, int[] by, int[] found) {
            if (fork == Math.min(4, now.forks.size())) {
                int cost = 0;
                for (int i = 0; i < fork; i++) {
                    cost += now.price * Math.abs(by[i]);
                }
                if ((found[4] == -8 || cost < found[4]) && hall.carried(note)) {
                    System.arraycopy(by, 0, found, 0, 4);
                    found[4] = cost;
                }
                return;
            }
            for (int i = -4; i <= 4; i++) {
                by[fork] = i;
                hall.forks.get(fork).pitch = forkOf(fork).pitch + i;
                if (isNote(hall.forks.get(fork).pitch)) {
                    tryBribe(hall, note, fork + 1, by, found);
                }
            }
        }

        public int swing(int fork, int note) {
            if (!isFork(fork) || !isNote(note)) {
                return -1;
            }
            List<Fork> others = new ArrayList<>(now.forks);
            others.remove(fork);
            return swings(others, note, 0, now.hums(forkOf(fork), note));
        }

        private int swings(List<Fork> others, int note, int sum, int own) {
            if (others.isEmpty()) {
                return sum < now.table && sum + own >= now.table ? 1 : 0;
            }
            List<Fork> left = others.subList(1, others.size());
            return swings(left, note, sum, own) + swings(left, note, sum + now.hums(others.get(0), note), own);
        }

        public int censure(int note) {
            if (!isNote(note)) {
                return -1;
            }
            for (int size = 0; size <= now.forks.size(); size++) {
                for (int set = 0; set < 1 << now.forks.size(); set++) {
                    Hall hall = now.copy();
                    int touched = 0;
                    for (int i = 0; i < now.forks.size(); i++) {
                        if ((set >> i) % 2 == 1) {
                            hall.forks.get(i).touched = true;
                            touched++;
                        }
                    }
                    if (touched == size && !hall.carried(note)) {
                        return set;
                    }
                }
            }
            return -2;
        }

        public int party(int party, int note) {
            if (party < 0 || party > 3 || !isNote(note)) {
                return -1;
            }
            return now.forks.stream().filter(fork -> fork.party == party).mapToInt(fork -> now.hums(fork, note)).sum();
        }

        private int[] has(int one, int other, int note, int i, int j) {
            Hall hall = now.copy();
            Fork first = hall.forks.get(one);
            Fork second = hall.forks.get(other);
            first.pitch = Math.max(100, Math.min(999, first.pitch + i));
            second.pitch = Math.max(100, Math.min(999, second.pitch + j));
            boolean carried = hall.carried(note);
            return new int[] {(carried ? 20 : 0) - now.price * Math.abs(i), (carried ? 0 : 20) - now.price * Math.abs(j)};
        }

        private List<Integer> restsOf(int one, int other, int note) {
            List<Integer> rests = new ArrayList<>();
            for (int i = -2; i <= 2; i++) {
                for (int j = -2; j <= 2; j++) {
                    int[] has = has(one, other, note, i, j);
                    boolean rest = true;
                    for (int k = -2; k <= 2; k++) {
                        rest &= has(one, other, note, k, j)[0] <= has[0] && has(one, other, note, i, k)[1] <= has[1];
                    }
                    if (rest) {
                        rests.add(10 * (i + 2) + j + 2);
                    }
                }
            }
            return rests;
        }

        public int rests(int one, int other, int note) {
            return !isFork(one) || !isFork(other) || one == other || !isNote(note) ? -1 : restsOf(one, other, note).size();
        }

        public int rest(int one, int other, int note, int k) {
            if (rests(one, other, note) == -1 || k < 0) {
                return -1;
            }
            List<Integer> rests = restsOf(one, other, note);
            return k < rests.size() ? rests.get(k) : -2;
        }

        public int likely(int motion, int what) {
            if (!isMotion(motion) || what < 0 || what > 1) {
                return -1;
            }
            int carried = 0;
            for (int wet = 0; wet < 10; wet++) {
                Hall hall = now.copy();
                hall.wetToday = wet;
                carried += hall.carried(now.motions.get(motion).note) ? 1 : 0;
            }
            int common = BigInteger.valueOf(carried).gcd(BigInteger.TEN).intValue();
            return (what == 0 ? carried : 10) / common;
        }

        public int order(int n, int what) {
            if (n < 1 || n > 4 || what < 0 || what > 4) {
                return -1;
            }
            List<Integer> open = new ArrayList<>();
            for (int i = 0; i < now.motions.size() && open.size() < 4; i++) {
                if (now.motions.get(i).verdict < 0) {
                    open.add(i);
                }
            }
            int[] best = null;
            int most = -1;
            for (int choice = 0; choice < Math.pow(n, open.size()); choice++) {
                int[] days = new int[4];
                int left = choice;
                Hall hall = now.copy();
                for (int i = open.size() - 1; i >= 0; i--) {
                    days[i] = left % n;
                    left /= n;
                    hall.motions.get(open.get(i)).day = now.day + days[i];
                }
                int carried = hall.after(n).verdicts(1) - now.verdicts(1);
                if (carried > most) {
                    most = carried;
                    best = days;
                }
            }
            return what == 4 ? most : what < open.size() ? best[what] : -2;
        }

        public int room(int fork, int note) {
            if (!isFork(fork) || !isNote(note)) {
                return -1;
            }
            int least = -2;
            for (int pitch = 100; pitch <= 999; pitch++) {
                Fork filed = forkOf(fork).copy();
                filed.pitch = pitch;
                int by = Math.abs(pitch - forkOf(fork).pitch);
                if (now.beats(filed, note) <= filed.width && (least == -2 || by < least)) {
                    least = by;
                }
            }
            return least;
        }

        public int minute(int motion, boolean carried) {
            if (!isMotion(motion) || minutes.size() == 24) {
                return -1;
            }
            minutes.add(new int[] {carried ? 1 : 0, motion});
            return minutes.size() - 1;
        }

        public int out(int minute) {
            if (minute < 0 || minute >= minutes.size() || minutes.size() == 24) {
                return -1;
            }
            minutes.add(new int[] {2, minute});
            return minutes.size() - 1;
        }

        public boolean known(int n) {
            if (n < -1 || n > minutes.size()) {
                return false;
            }
            knownBy = n;
            return true;
        }

        private boolean isStruck(int minute, int by) {
            for (int i = minute + 1; i < by; i++) {
                if (minutes.get(i)[0] == 2 && minutes.get(i)[1] == minute && !isStruck(i, by)) {
                    return true;
                }
            }
            return false;
        }

        public int widths(int fork) {
            if (!isFork(fork)) {
                return -1;
            }
            int bits = 0;
            for (int i = 0; i < 10; i++) {
                Hall hall = first.copy();
                hall.forks.get(fork).width = 10 * i;
                hall = hall.after(100);
                boolean all = true;
                for (int k = 0; k < count(13); k++) {
                    int[] minute = minutes.get(k);
                    all &= minute[0] == 2 || isStruck(k, count(13)) || hall.motions.get(minute[1]).verdict == minute[0];
                }
                bits += all ? 1 << i : 0;
            }
            return bits;
        }

        public int chance(int seed, int n, int carried) {
            if (seed < 0 || n < 1 || n > 99 || carried < 0 || carried > 10) {
                return -1;
            }
            BigInteger last = BigInteger.valueOf(seed);
            int times = 0;
            for (int time = 0; time < 10; time++) {
                Hall hall = now.copy();
                for (int i = 0; i < n; i++) {
                    last = last.multiply(BigInteger.valueOf(1103515245)).add(BigInteger.valueOf(12345))
                        .mod(BigInteger.ONE.shiftLeft(31));
                    hall.wetToday = last.shiftRight(16).mod(BigInteger.TEN).intValue();
                    hall.goByOne();
                }
                times += hall.verdicts(1) - now.verdicts(1) >= carried ? 1 : 0;
            }
            return times;
        }

        public int tried(int what, int i, int n) {
            if (what < 0 || what > 5 || n < 0 || n > 99 || what != 2 && i != 0 || what == 2 && !isFork(i)) {
                return -1;
            }
            Hall hall = now.copy();
            switch (what) {
                case 1: hall.wets.clear(); break;
                case 2: hall.forks.remove(i); break;
                case 3: hall.noRust = true; break;
                case 4: hall.forks.forEach(fork -> fork.cracked = false); break;
                case 5: hall.forks.forEach(fork -> fork.touched = false); break;
                default: break;
            }
            return hall.after(n).verdicts(1) - now.verdicts(1);
        }

        public int undo() {
            if (deeds.isEmpty()) {
                return -1;
            }
            deeds.remove(deeds.size() - 1).run();
            return deeds.size();
        }

        public int keep() {
            image = now.copy();
            return now.day;
        }

        public int back() {
            if (image == null) {
                return -1;
            }
            now = image.copy();
            deeds.clear();
            return now.day;
        }

        public int count(int what) {
            int cracked = (int) now.forks.stream().filter(fork -> fork.cracked).count();
            int touched = (int) now.forks.stream().filter(fork -> fork.touched).count();
            int[] counts = {now.forks.size(), now.motions.size(), cracked, now.wets.size(), now.knots, now.day, now.purse,
                now.paid, now.verdicts(1), now.verdicts(0), now.heard(), touched, minutes.size(),
                knownBy == -1 ? minutes.size() : knownBy, deeds.size()};
            return what < 0 || what >= counts.length ? -1 : counts[what];
        }
    }
}

import java.nio.charset.StandardCharsets;
import java.util.Arrays;
import java.util.NoSuchElementException;

/** For each promise: ordinary calls, the edges that the document names, and wrong calls, worked out by hand. */
public final class PromiseTest {
    private static int wrong = 0;
    private static String promise = "";

    private static void due(String call, long got, long want) {
        if (got != want) {
            wrong++;
            System.out.println("promise " + promise + ": " + call + " answered " + got + ", due is " + want);
        }
    }

    private static void due(String call, boolean got, boolean want) {
        due(call, got ? 1 : 0, want ? 1 : 0);
    }

    private static int read(ForkCouncil x, String text) {
        byte[] bytes = text.getBytes(StandardCharsets.ISO_8859_1);
        byte[] padded = Arrays.copyOf(bytes, (bytes.length + 19) / 20 * 20);
        for (int i = 0; i < padded.length; i += 20) {
            int[] n = new int[5];
            for (int j = 0; j < 20; j++) {
                n[j / 4] = n[j / 4] << 8 | padded[i + j] & 255;
            }
            x.feed(n[0], n[1], n[2], n[3], n[4]);
        }
        return x.text(bytes.length);
    }

    private static ForkCouncil told(String text) {
        ForkCouncil x = new ForkCouncil();
        int lines = read(x, text);
        if (lines < 0) {
            wrong++;
            System.out.println("promise " + promise + ": fault " + x.fault(0) + " at " + x.fault(1) + " of " + text);
        }
        return x;
    }

    private static void fault(String text, int kind, int place) {
        ForkCouncil x = new ForkCouncil();
        due("text of " + text, read(x, text), -1);
        due("fault(0) of " + text, x.fault(0), kind);
        due("fault(1) of " + text, x.fault(1), place);
    }

    private static void lines(String text, int lines) {
        ForkCouncil x = new ForkCouncil();
        due("text of " + text, read(x, text), lines);
        due("fault(0) of " + text, x.fault(0), 0);
        due("fault(1) of " + text, x.fault(1), -1);
    }

    private static int letters(String word) {
        int letters = 0;
        for (int i = 0; i < 6; i++) {
            letters = letters * 32 + (i < word.length() ? word.charAt(i) - 'a' + 1 : 0);
        }
        return letters;
    }

    /** 0: nothing is thrown, 1: IndexOutOfBoundsException, 2: NoSuchElementException. */
    private static int thrown(ForkCouncil x, int motion, int what) {
        try {
            x.motion(motion, what);
            return 0;
        } catch (IndexOutOfBoundsException e) {
            return 1;
        } catch (NoSuchElementException e) {
            return 2;
        }
    }

    private static String times(String part, int n) {
        StringBuilder all = new StringBuilder();
        for (int i = 0; i < n; i++) {
            all.append(part.replace("#", "" + (char) ('a' + i)).replace("@", "" + i));
        }
        return all.toString();
    }

    private static final String HALL = "fork ann 440 2 6 0;fork bo 443 5 5 0;fork cy 220 1 4 1;fork di 600 0 3 2;crack di;"
        + "motion tax 440 1;motion war 300 2;table 12;wet 0;wet 3;purse 50 4;";

    public static void main(String[] args) {
        newObject();
        feed();
        text();
        onlyTheFirstBytes();
        faultsOfTokens();
        faultsOfTooMuch();
        faultsOfTwiceAndUntold();
        named();
        motion();
        forkAndWet();
        beatsHumsStruck();
        law();
        lawValues();
        touch();
        file();
        put();
        earn();
        go();
        rust();
        ahead();
        bestAndOpen();
        bribe();
        swing();
        censure();
        party();
        rests();
        likely();
        order();
        room();
        minutes();
        widths();
        chance();
        tried();
        undo();
        keepAndBack();
        count();
        System.out.println(wrong == 0 ? "all promises hold" : wrong + " answers are not as due");
        if (wrong != 0) {
            System.exit(1);
        }
    }

    private static void newObject() {
        promise = "1";
        ForkCouncil x = new ForkCouncil();
        int[] counts = {0, 0, 0, 0, 0, 0, 100, 0, 0, 0, 0, 0, 0, 0, 0};
        for (int i = 0; i < counts.length; i++) {
            due("count(" + i + ")", x.count(i), counts[i]);
        }
        due("fault(0)", x.fault(0), 0);
        due("fault(1)", x.fault(1), -1);
        due("text(1) of an empty tape", x.text(1), -2);
        due("struck(500, 0)", x.struck(500, 0), 0);
        due("go(99)", x.go(99), 99);
        due("keep()", x.keep(), 99);
        due("back()", x.back(), 99);
        due("wet(3)", x.wet(3), 0);
        due("NONE", ForkCouncil.NONE, -1);
    }

    private static void feed() {
        promise = "2";
        ForkCouncil x = new ForkCouncil();
        for (int i = 1; i <= 35; i++) {
            due("feed " + i, x.feed(0x7765743b, 0, 0, 0, 0), 20 * i);
        }
        due("feed 36", x.feed(0, 0, 0, 0, 0), -1);
        due("text(701)", x.text(701), -2);
        due("text(700)", x.text(700), -1);
        due("feed anew", x.feed(0x77657420, 0x393b2020, 0x77657420, 0x373b2020, 0x20202020), 20);
        due("text(20)", x.text(20), 2);
        due("wet(0), the highest byte first", x.wet(0), 9);
        due("wet(1)", x.wet(1), 7);
        x.feed(-1, 0, 0, 0, 0);
        due("a byte above 127", x.text(4), -1);
        due("its place", x.fault(1), 0);
    }

    private static void text() {
        promise = "3";
        lines("", 0);
        lines(" \n ", 0);
        lines("table 3;\nwet 0 ; wet 9;", 3);
        lines(HALL, 11);
        ForkCouncil x = told("fork f 500 9 9 0;motion m 500 0;motion k 500 1;table 1;purse 40 2;");
        x.minute(0, true);
        x.known(0);
        x.touch(0, true);
        x.file(0, 3);
        x.keep();
        due("a text with a fault", read(x, "fork g 99 1 1 1;"), -1);
        due("all stays: the fork", x.fork(0, 0), 503);
        due("all stays: touched", x.count(11), 1);
        due("all stays: minutes", x.count(12), 1);
        due("all stays: known", x.count(13), 0);
        due("all stays: undo", x.count(14), 2);
        due("all stays: image", x.back(), 0);
        x.touch(0, true);
        due("the tape is empty", x.text(1), -2);
        x.feed(0x77657420, 0x313b2020, 0, 0, 0);
        due("text(-1)", x.text(-1), -2);
        due("text(21)", x.text(21), -2);
        due("the tape stays", x.text(6), 1);
        due("the day", x.count(5), 0);
        due("no forks", x.count(0), 0);
        due("no minutes", x.count(12), 0);
        due("nothing to undo", x.undo(), -1);
        due("no image", x.back(), -1);
        due("the purse", x.count(6), 100);
        due("paid", x.count(7), 0);
        read(x, "motion m 500 0;");
        x.minute(0, false);
        x.known(0);
        x.go(2);
        read(x, "fork f 200 9 9 0;motion m 200 3;");
        due("day 0 again", x.count(5), 0);
        x.minute(0, true);
        due("all known again", x.count(13), 1);
        due("not struck", x.motion(0, 2), -1);
    }

    private static void shorterThanTheTape(String tape, int n, int place) {
        ForkCouncil x = new ForkCouncil();
        byte[] bytes = Arrays.copyOf(tape.getBytes(StandardCharsets.ISO_8859_1), 20);
        int[] numbers = new int[5];
        for (int j = 0; j < 20; j++) {
            numbers[j / 4] = numbers[j / 4] << 8 | bytes[j] & 255;
        }
        x.feed(numbers[0], numbers[1], numbers[2], numbers[3], numbers[4]);
        due("the first " + n + " of " + tape, x.text(n), -1);
        due("fault(0) of them", x.fault(0), 1);
        due("fault(1) of them", x.fault(1), place);
    }

    private static void onlyTheFirstBytes() {
        promise = "3 (the first n bytes)";
        shorterThanTheTape("wet 12;", 5, 5);
        shorterThanTheTape("wet 1;", 5, 5);
        shorterThanTheTape("wet", 2, 0);
        shorterThanTheTape("wet  1;", 4, 4);
        shorterThanTheTape("law hum 1<=2;", 10, 10);
        shorterThanTheTape("law hum 1<>2;", 10, 10);
        shorterThanTheTape("law hum 1>=2;", 10, 10);
        promise = "3 (a full tape)";
        String blanks = times(" ", 694);
        lines(blanks + "wet 1;", 1);
        lines("wet 1;" + blanks, 1);
        fault(times(" ", 695) + "table", 1, 700);
        fault(times(" ", 692) + "table 12", 1, 700);
        fault(times(" ", 690) + "law hum 1<", 1, 700);
        fault("wet" + times(" ", 697), 1, 700);
        fault("wet " + times("0", 696), 1, 700);
        fault("wet " + times("9", 696), 2, 4);
        fault(times("a", 700), 1, 0);
        fault("law hum " + times("(", 692), 2, 16);
        fault("law hum " + times("not ", 173), 2, 8 + 4 * 64);
    }

    private static void faultsOfTokens() {
        promise = "3, 4 (1)";
        fault("Fork f 100 0 0 0;", 1, 0);
        fault("wet 1;\twet 1;", 1, 6);
        fault("wet 1;\rwet 1;", 1, 6);
        fault(" forks f 100 0 0 0;", 1, 1);
        fault("fork abcdefg 100 0 0 0;", 1, 5);
        lines("fork abcdef 100 0 0 0;", 1);
        fault("fork fork 100 0 0 0;", 1, 5);
        fault("fork day 100 0 0 0;", 1, 5);
        fault("fork 1 100 0 0 0;", 1, 5);
        fault("motion hum 100 0;", 1, 7);
        fault("crack abcdefg;", 1, 6);
        fault("crack wet;", 1, 6);
        fault("crack;", 1, 5);
        fault("crack 1;", 1, 6);
        fault("fork;", 1, 4);
        fault("motion;", 1, 6);
        fault("table;", 1, 5);
        fault("table", 1, 5);
        fault("table  \n", 1, 8);
        fault("table 1", 1, 7);
        fault("table 1 2;", 1, 8);
        fault(";", 1, 0);
        fault("wet 1;;", 1, 6);
        fault("5;", 1, 0);
        fault("wet -1;", 1, 4);
        fault("law;", 1, 3);
        fault("law hum;", 1, 7);
        fault("law hums 1;", 1, 4);
        fault("law hum 1", 1, 9);
        fault("law hum (1;", 1, 10);
        fault("law hum 1);", 1, 9);
        fault("law hum ();", 1, 9);
        fault("law hum 1+;", 1, 10);
        fault("law hum -1;", 1, 8);
        fault("law hum 1 < 2 < 3;", 1, 14);
        fault("law hum 1 = 2 = 3;", 1, 14);
        fault("law hum 1 < = 2;", 1, 12);
        fault("law hum 1 > = 2;", 1, 12);
        fault("law hum 1 < > 2;", 1, 12);
        fault("law hum 1 >< 2;", 1, 11);
        fault("law hum 1 =< 2;", 1, 11);
        fault("law hum 1 == 2;", 1, 11);
        fault("law hum 1 <>= 2;", 1, 12);
        fault("law hum 1 + not 2;", 1, 12);
        fault("law hum 1 < not 2;", 1, 12);
        fault("law hum not;", 1, 11);
        fault("law hum 1 and or 2;", 1, 14);
        fault("law hum fork;", 1, 8);
        fault("law hum abc;", 1, 8);
        fault("law hum 1 2;", 1, 10);
        fault("law hum 1 % 2;", 1, 10);
        lines("law hum not not(1)<>(2)and 1 or not 3>=4;", 1);
        lines("table10;wet1;fork f100 2 3 1;", 3);
        lines("table 0010;seed 00000099999;", 2);
    }

    private static void faultsOfTooMuch() {
        promise = "3, 4 (2)";
        lines("fork f 100 0 0 0;fork g 999 99 9 3;motion m 100 0;motion n 999 99;", 4);
        lines("table 1;wet 0;wet 9;purse 0 0;rusty 0;seed 0;", 6);
        lines("table 99;purse 999 99;rusty 9;seed 99999;law hum 9999;", 5);
        fault("table 99999999999999999999;", 2, 6);
        fault("table 4294967297;", 2, 6);
        fault("motion m 1000 0;", 2, 9);
        fault("motion m 99 0;", 2, 9);
        fault("motion m 100 100;", 2, 13);
        fault("fork f 99 0 0 0;", 2, 7);
        fault("fork f 1000 0 0 0;", 2, 7);
        fault("fork f 100 100 0 0;", 2, 11);
        fault("fork f 100 0 10 0;", 2, 13);
        fault("fork f 100 0 0 4;", 2, 15);
        fault("table 0;", 2, 6);
        fault("table 100;", 2, 6);
        fault("wet 10;", 2, 4);
        fault("purse 1000 1;", 2, 6);
        fault("purse 1 100;", 2, 8);
        fault("rusty 10;", 2, 6);
        fault("seed 100000;", 2, 5);
        fault("law hum 10000;", 2, 8);
        lines(times("fork # 100 0 0 0;", 8), 8);
        fault(times("fork # 100 0 0 0;", 9), 2, 136);
        fault(times("fork # 100 0 0 0;", 8) + "fork", 2, 136);
        lines(times("motion # 100 0;", 10), 10);
        fault(times("motion # 100 0;", 11), 2, 150);
        lines(times("wet 1;", 8), 8);
        fault(times("wet 1;", 9), 2, 48);
        lines("law hum " + times("(", 8) + "1" + times(")", 8) + ";", 1);
        fault("law hum " + times("(", 9) + "1" + times(")", 9) + ";", 2, 16);
        lines("law hum (1)+((2))+(((3)));law rust " + times("(1)+", 9) + "1;", 2);
        String knots = "law hum 1" + times("+1", 31) + ";";
        ForkCouncil x = told(knots + "law pass 1;");
        due("knots", x.count(4), 64);
        fault(knots + "law pass 1+1;", 2, knots.length() + 10);
        fault(knots + "law pass 1 and", 2, knots.length() + 11);
        fault(knots + "law pass not 1;", 2, knots.length() + 13);
        fault(knots + "law pass 1;law rust day;", 2, knots.length() + 20);
        fault(knots + "law pass 1;law rust +;", 1, knots.length() + 20);
        lines(knots + "law pass (1);", 2);
        x = told("law hum " + times("not ", 63) + "day;");
        due("knots of not", x.count(4), 64);
        fault("law hum " + times("not ", 64) + "day;", 2, 8 + 4 * 64);
        fault("law hum " + times("not ", 65) + "day;", 2, 8 + 4 * 64);
    }

    private static void faultsOfTwiceAndUntold() {
        promise = "3, 4 (3, 4)";
        lines("fork a 100 0 0 0;motion a 100 0;crack a;", 3);
        fault("fork a 100 0 0 0;fork a", 3, 22);
        fault("motion a 100 0;motion b 100 0;motion a 100 0;", 3, 37);
        fault("table 1;table 1;", 3, 8);
        fault("purse 1 1;purse 1 1;", 3, 10);
        fault("seed 1;table 1;rusty 1;purse 1 1;seed 1;", 3, 33);
        fault("rusty 1;rusty 1;", 3, 8);
        fault("law hum 1;law pass 1;law hum 1;", 3, 25);
        fault("law rust 1;law rust", 3, 15);
        fault("crack a;fork a 100 0 0 0;", 4, 6);
        fault("motion a 100 0;crack a;", 4, 21);
        fault("fork a 100 0 0 0;fork b 100 0 0 0;crack b;crack b;", 3, 48);
        promise = "4";
        ForkCouncil x = new ForkCouncil();
        read(x, "wet 10;");
        x.text(99);
        due("fault(0) behind a -2", x.fault(0), 2);
        due("fault(1) behind a -2", x.fault(1), 4);
        due("fault(2)", x.fault(2), -1);
        due("fault(-1)", x.fault(-1), -1);
        x.text(0);
        due("fault(0) of the latest", x.fault(0), 0);
        due("fault(1) of the latest", x.fault(1), -1);
    }

    private static void named() {
        promise = "5";
        ForkCouncil x = told("fork a 100 0 0 0;fork ab 100 0 0 0;fork zzzzzz 100 0 0 0;motion ab 100 0;");
        due("a is 1, the first one highest", x.named(0, 1 << 25), 0);
        due("ab", x.named(0, 1 << 25 | 2 << 20), 1);
        due("zzzzzz", x.named(0, letters("zzzzzz")), 2);
        due("motion ab", x.named(1, letters("ab")), 0);
        due("motion a", x.named(1, letters("a")), -1);
        due("b", x.named(0, letters("b")), -1);
        due("0", x.named(0, 0), -1);
        due("1", x.named(0, 1), -1);
        due("what 2", x.named(2, letters("a")), -1);
        due("what -1", x.named(-1, letters("a")), -1);
        due("a bit above thirty", x.named(0, 1 << 25 | 1 << 30), -1);
        read(x, "fork b 100 0 0 0;");
        due("a is gone", x.named(0, letters("a")), -1);
        due("b is here", x.named(0, letters("b")), 0);
    }

    private static void motion() {
        promise = "6";
        ForkCouncil x = told("fork f 500 0 9 0;motion a 500 0;motion b 501 0;motion c 502 7;table 9;");
        due("NOTE", x.motion(2, 0), 502);
        due("DAY", x.motion(2, 1), 7);
        due("not struck", x.motion(0, 2), -1);
        due("not heard", x.motion(0, 3), -1);
        x.put(2, 9);
        due("the new DAY", x.motion(2, 1), 9);
        x.go(1);
        due("carried", x.motion(0, 2), 1);
        due("heard", x.motion(0, 3), 9);
        due("fallen", x.motion(1, 2), 0);
        due("heard none", x.motion(1, 3), 0);
        due("not struck yet", x.motion(2, 2), -1);
        due("motion 3", thrown(x, 3, 0), 1);
        due("motion -1", thrown(x, -1, 0), 1);
        due("motion 3, what 4", thrown(x, 3, 4), 1);
        due("what 4", thrown(x, 0, 4), 2);
        due("what -1", thrown(x, 0, -1), 2);
        due("what 3", thrown(x, 0, 3), 0);
        due("without motions", thrown(new ForkCouncil(), 0, 9), 1);
    }

    private static void forkAndWet() {
        promise = "7";
        ForkCouncil x = told("fork a 300 11 4 2;fork b 400 12 5 3;crack b;");
        int[] due = {400, 12, 5, 3, 1, 0};
        for (int what = 0; what < due.length; what++) {
            due("fork(1, " + what + ")", x.fork(1, what), due[what]);
        }
        due("fork(0, 4)", x.fork(0, 4), 0);
        x.touch(1, true);
        due("fork(1, 5)", x.fork(1, 5), 1);
        due("fork(1, 6)", x.fork(1, 6), -1);
        due("fork(1, -1)", x.fork(1, -1), -1);
        due("fork(2, 0)", x.fork(2, 0), -1);
        due("fork(-1, 0)", x.fork(-1, 0), -1);
        promise = "8";
        x = told("wet 4;wet 0;wet 9;");
        due("wet(0)", x.wet(0), 4);
        due("wet(2)", x.wet(2), 9);
        due("wet(3)", x.wet(3), 4);
        due("wet(9998)", x.wet(9998), 9);
        due("wet(9999)", x.wet(9999), 4);
        due("wet(10000)", x.wet(10000), -1);
        due("wet(-1)", x.wet(-1), -1);
    }

    private static void beatsHumsStruck() {
        promise = "9";
        ForkCouncil x = told("fork a 500 3 9 0;fork b 400 3 2 1;crack b;wet 0;wet 5;table 11;");
        due("as it is", x.beats(0, 507), 7);
        due("the octave above", x.beats(0, 999), 1);
        due("the octave below", x.beats(0, 251), 2);
        due("between: twice the pitch from the note", x.beats(0, 760), 240);
        due("between: the pitch from the note", x.beats(0, 749), 249);
        due("note 99", x.beats(0, 99), -1);
        due("note 1000", x.beats(0, 1000), -1);
        due("fork 2", x.beats(2, 500), -1);
        due("fork -1", x.beats(-1, 500), -1);
        promise = "10";
        due("width reached", x.hums(0, 503), 9);
        due("width passed", x.hums(0, 504), 0);
        due("cracked", x.hums(1, 700), 2);
        x.touch(1, true);
        due("touched", x.hums(1, 700), 0);
        x.touch(1, false);
        due("note 99", x.hums(0, 99), -1);
        due("note 1000", x.hums(0, 1000), -1);
        due("fork 2", x.hums(2, 500), -1);
        promise = "11";
        due("all hum", x.struck(500, 0), 11);
        due("table is reached", x.struck(500, 1), 1);
        due("agreed", x.struck(500, 2), 2);
        due("one agreed", x.struck(700, 2), 1);
        due("table isn't reached", x.struck(700, 1), 0);
        due("what 3", x.struck(500, 3), -1);
        due("what -1", x.struck(500, -1), -1);
        due("note 1000", x.struck(1000, 0), -1);
        due("note 99", x.struck(99, 1), -1);
        x.go(1);
        promise = "9, 10";
        due("less wet", x.beats(0, 500), 5);
        due("less wet, octave", x.beats(0, 999), 9);
        due("wet hum", x.hums(0, 500), 0);
        due("wet hum below", x.hums(0, 492), 9);
    }

    private static void law() {
        promise = "12";
        String all = "pitch*1000*1000*1000+note*1000*1000+width*9999+loud*1000+beats*100+damp*10+day;";
        String forks = "fork a 402 12 3 0;fork b 100 0 9 0;wet 2;motion m 400 0;";
        ForkCouncil x = told(forks + "law hum " + all);
        due("hum", x.law(0, 0, 401), 400401000000L + 12 * 9999 + 3000 + 100 + 20);
        x.touch(1, true);
        due("hum of a touched one", x.law(0, 1, 100), 98100000000L + 9000 + 200 + 20);
        due("hum is 99 at most", x.hums(0, 401), 99);
        x = told(forks + "law rust " + all);
        due("rust: note, beats are 0", x.law(1, 0, 401), 400000000000L + 12 * 9999 + 3000 + 20);
        due("rust looks at no note", x.law(1, 0, -5), 400000000000L + 12 * 9999 + 3000 + 20);
        x.go(1);
        due("rust is 9 at most", x.fork(0, 0), 393);
        due("100 at least", x.fork(1, 0), 100);
        due("the next day", x.law(1, 0, 0), 391000000000L + 12 * 9999 + 3000 + 21);
        x = told(forks + "law hum 9999;law rust 0;law pass " + all);
        due("pass: loud is what all hum", x.law(2, 0, 401), 401000000L + 2 * 99 * 1000 + 20);
        due("pass looks at no fork", x.law(2, 77, 401), 401000000L + 2 * 99 * 1000 + 20);
        x.touch(1, true);
        due("pass when one is touched", x.law(2, -1, 401), 401000000L + 99 * 1000 + 20);
        due("what 3", x.law(3, 0, 401), Long.MIN_VALUE);
        due("what -1", x.law(-1, 0, 401), Long.MIN_VALUE);
        due("hum of fork 2", x.law(0, 2, 401), Long.MIN_VALUE);
        due("rust of fork -1", x.law(1, -1, 401), Long.MIN_VALUE);
        due("hum of note 99", x.law(0, 0, 99), Long.MIN_VALUE);
        due("pass of note 1000", x.law(2, 0, 1000), Long.MIN_VALUE);
        x = told("fork a 402 12 3 0;");
        for (int what = 0; what < 3; what++) {
            due("no such law " + what, x.law(what, 0, 402), Long.MIN_VALUE);
        }
    }

    private static void value(String e, long want) {
        due(e, told("fork a 400 12 3 0;law rust " + e + ";").law(1, 0, 0), want);
    }

    private static void lawValues() {
        promise = "12 (E)";
        value("1+2*3", 7);
        value("(1+2)*3", 9);
        value("9-4-3", 2);
        value("99/5/2", 9);
        value("7/2*2", 6);
        value("(0-7)/2", -3);
        value("7/(0-2)", -3);
        value("not 0", 1);
        value("not 5", 0);
        value("not not 5", 1);
        value("not 1+1", 0);
        value("not 1=2", 1);
        value("1 or 0 and 0", 1);
        value("(1 or 0) and 0", 0);
        value("not 0 and 0", 0);
        value("7 and 8", 1);
        value("7 or 0", 1);
        value("0 or 0", 0);
        value("1<2", 1);
        value("2<2", 0);
        value("2<=2", 1);
        value("3<=2", 0);
        value("2=2", 1);
        value("2<>2", 0);
        value("2<>3", 1);
        value("2>=3", 0);
        value("3>=3", 1);
        value("3>3", 0);
        value("4>3", 1);
        value("1+1=2 and 3*2>5", 1);
        value("1/0", Long.MIN_VALUE);
        value("0 and 1/0", Long.MIN_VALUE);
        value("1 or 1/0", Long.MIN_VALUE);
        value("not (1/0)", Long.MIN_VALUE);
        value("1000*1000*1000*1000", 1000000000000L);
        value("0-1000*1000*1000*1000", -1000000000000L);
        value("1000*1000*1000*1000+1", Long.MIN_VALUE);
        value("0-1000*1000*1000*1000-1", Long.MIN_VALUE);
        value("(1000*1000*1000*1000+1)*0", Long.MIN_VALUE);
        value("1000*1000*1000*1000*(1000*1000*1000*1000)", Long.MIN_VALUE);
        value("(0-1000*1000*1000*1000)*(1000*1000*1000*1000)", Long.MIN_VALUE);
        // Two to the 64 wraps around to 0.
        value("(256*256*256*256)*(256*256*256*256)", Long.MIN_VALUE);
        value("(1000*1000*1000*1000)*(0-1)", -1000000000000L);
        value("(1000*1000*1000*1000)*0", 0);
        value("pitch-note-width-loud-beats-damp-day", 400 - 12 - 3);
        promise = "10, 11, 17 (with an ERROR)";
        ForkCouncil x = told("fork a 400 5 7 0;fork b 420 5 2 0;motion m 400 0;table 7;rusty 3;"
            + "law hum 8/(beats-beats);law rust 1/0;law pass 1/damp;");
        due("hums by width", x.hums(0, 405), 7);
        due("hums not by width", x.hums(0, 406), 0);
        due("carried by table", x.struck(405, 1), 1);
        due("fallen by table", x.struck(420, 1), 0);
        x.go(1);
        due("rusts by rusty", x.fork(0, 0), 397);
        x = told("fork a 400 0 7 0;fork b 400 0 9 0;law hum 40*loud-300;law rust 5-12;law pass loud=160-60;");
        due("hum 0 at least", x.hums(0, 500), 0);
        due("hum as told", x.hums(1, 500), 60);
        due("a pass that isn't by table", x.struck(500, 1), 0);
        x.go(2);
        due("rust 0 at least", x.fork(0, 0), 400);
        promise = "11";
        due("a pass below 0 is carried", told("law pass 0-5;").struck(500, 1), 1);
        due("a cracked one keeps to the law", told("fork a 400 0 7 0;crack a;law hum 3;").hums(0, 800), 3);
    }

    private static void touch() {
        promise = "13";
        ForkCouncil x = told("fork a 400 5 7 0;fork b 400 5 2 0;motion m 400 0;motion n 400 1;table 9;");
        due("no more, but it wasn't", x.touch(0, false), false);
        due("touched", x.touch(0, true), true);
        due("again", x.touch(0, true), false);
        due("hums", x.struck(400, 0), 2);
        due("no more", x.touch(0, false), true);
        due("hums again", x.struck(400, 0), 9);
        due("fork 2", x.touch(2, true), false);
        due("fork -1", x.touch(-1, true), false);
        due("b", x.touch(1, true), true);
        x.go(1);
        due("fell", x.motion(0, 2), 0);
        due("heard", x.motion(0, 3), 7);
        due("none is touched any more", x.count(11), 0);
        x.go(1);
        due("carried", x.motion(1, 2), 1);
    }

    private static void file() {
        promise = "14";
        ForkCouncil x = told("fork a 900 5 7 0;fork b 100 5 2 0;purse 500 3;");
        due("up by 99", x.file(0, 99), 999);
        due("paid", x.count(7), 297);
        due("purse", x.count(6), 203);
        due("above 999", x.file(0, 1), -1);
        due("below 100", x.file(1, -1), -1);
        due("by 0", x.file(1, 0), -1);
        due("by 100", x.file(1, 100), -1);
        due("by -100", x.file(0, -100), -1);
        due("fork 2", x.file(2, 1), -1);
        due("fork -1", x.file(-1, 1), -1);
        due("too dear", x.file(0, -68), -2);
        due("nothing paid", x.count(6), 203);
        due("just so much", x.file(0, -67), 932);
        due("purse", x.count(6), 2);
        due("too dear by one", x.file(0, 1), -2);
        due("too dear, but no pitch either", x.file(0, 68), -1);
        due("paid in sum", x.count(7), 498);
        x = told("fork a 900 5 7 0;purse 0 0;");
        due("for nothing", x.file(0, -99), 801);
        x = told("fork a 900 5 7 0;");
        x.file(0, 2);
        due("5 without", x.count(6), 90);
    }

    private static void put() {
        promise = "15";
        ForkCouncil x = told("fork a 400 0 9 0;motion m 400 2;motion n 400 5;table 9;rusty 1;");
        due("on that day", x.put(0, 2), false);
        due("motion 2", x.put(2, 3), false);
        due("motion -1", x.put(-1, 3), false);
        due("10000", x.put(0, 10000), false);
        due("-1", x.put(0, -1), false);
        due("9999", x.put(0, 9999), true);
        due("today", x.put(0, 0), true);
        x.go(1);
        due("struck today", x.motion(0, 2), 1);
        due("struck already", x.put(0, 4), false);
        due("a day gone by", x.put(1, 0), false);
        due("put ahead", x.put(1, 1), true);
        x.go(1);
        due("struck on its new day", x.motion(1, 2), 0);
        x.go(5);
        due("not again", x.count(9), 1);
        due("its day stays", x.motion(1, 1), 1);
    }

    private static void earn() {
        promise = "16";
        ForkCouncil x = told("purse 999 1;");
        due("0", x.earn(0), -1);
        due("-1", x.earn(-1), -1);
        due("100", x.earn(100), -1);
        due("1", x.earn(1), 1000);
        int purse = 1000;
        for (int i = 0; i < 90; i++) {
            purse += 99;
            due("99", x.earn(99), purse);
        }
        due("above 9999", x.earn(90), -1);
        due("9999", x.earn(89), 9999);
        due("one more", x.earn(1), -1);
        due("the largest", x.earn(Integer.MAX_VALUE), -1);
    }

    private static void go() {
        promise = "17";
        ForkCouncil x = told("fork a 500 2 9 0;motion m 500 0;motion n 500 3;motion k 500 4;table 5;wet 0;wet 1;rusty 1;");
        due("0 days", x.go(0), 0);
        due("nothing is struck", x.motion(0, 2), -1);
        due("100", x.go(100), -1);
        due("-1", x.go(-1), -1);
        due("5 days", x.go(5), 5);
        due("carried", x.motion(0, 2), 1);
        due("day 3: 497 less 1", x.motion(1, 2), 0);
        due("day 4: 496", x.motion(2, 2), 0);
        due("pitch", x.fork(0, 0), 495);
        for (int i = 0; i < 99; i++) {
            x.go(99);
        }
        due("the day", x.count(5), 9806);
        due("behind 9900", x.go(95), -1);
        due("stays", x.count(5), 9806);
        due("9900", x.go(94), 9900);
        due("one more", x.go(1), -1);
        due("none more", x.go(0), 9900);
        due("pitch at last", x.fork(0, 0), 100);
        x = told("fork a 500 0 5 0;motion m 500 0;motion n 500 0;law pass loud>=5;table 99;");
        due("two of a day", x.go(1), 1);
        due("both carried", x.count(8), 2);
        due("heard in sum", x.count(10), 10);
    }

    private static void rust() {
        promise = "17 (rust)";
        ForkCouncil x = told("fork a 500 3 9 0;fork b 104 8 1 0;wet 1;wet 2;law rust width-day+damp;");
        x.go(1);
        due("3-0+1", x.fork(0, 0), 496);
        due("8-0+1, 100 at least", x.fork(1, 0), 100);
        x.go(1);
        due("3-1+2", x.fork(0, 0), 492);
        x.go(3);
        due("3-2+1, 3-3+2, 3-4+1", x.fork(0, 0), 488);
        x.go(9);
        due("0 at least", x.fork(0, 0), 488);
    }

    private static void ahead() {
        promise = "18";
        ForkCouncil x = told("fork a 500 2 9 0;fork b 700 0 1 0;motion m 500 0;motion n 500 2;motion k 500 3;table 5;rusty 1;");
        x.go(1);
        due("0 days", x.ahead(0, 0, 0), 0);
        due("0 days, pitch", x.ahead(0, 3, 1), 699);
        due("carried more", x.ahead(3, 0, 0), 1);
        due("fallen more", x.ahead(3, 1, 0), 1);
        due("heard more", x.ahead(3, 2, 0), 9);
        due("pitch then", x.ahead(99, 3, 1), 600);
        due("fork isn't looked at", x.ahead(2, 0, 77), 1);
        due("fork 2", x.ahead(2, 3, 2), -1);
        due("fork -1", x.ahead(2, 3, -1), -1);
        due("what 4", x.ahead(2, 4, 0), -1);
        due("what -1", x.ahead(2, -1, 0), -1);
        due("100", x.ahead(100, 0, 0), -1);
        due("-1", x.ahead(-1, 0, 0), -1);
        due("nothing went by", x.count(5), 1);
        due("nothing was struck", x.count(8), 1);
        x.touch(0, true);
        x.put(2, 1);
        due("touched today", x.ahead(1, 1, 0), 1);
        due("still touched", x.count(11), 1);
    }

    private static void bestAndOpen() {
        promise = "19";
        ForkCouncil x = told("fork a 500 2 4 0;fork b 505 3 4 0;table 4;");
        due("the first of several, by the octave below", x.best(0), 251);
        due("how loud", x.best(1), 8);
        due("what 2", x.best(2), -1);
        due("what -1", x.best(-1), -1);
        x.touch(1, true);
        due("touched: the other one alone", x.best(0), 249);
        due("how loud then", x.best(1), 4);
        x = told("fork a 999 0 4 0;law hum note/99-9;");
        due("the last step", x.best(0), 990);
        due("its hum", x.best(1), 1);
        due("999", told("fork a 999 0 4 0;law hum note=999;").best(0), 999);
        promise = "20";
        x = told("fork a 500 2 4 0;table 4;");
        // 498 .. 502, 998 .. 999 (twice 500 is 1000), 249 .. 251
        due("open", x.open(), 10);
        x.touch(0, true);
        due("touched", x.open(), 0);
        due("all", told("law pass 1;").open(), 900);
        due("by note", told("law pass note>990;").open(), 9);
    }

    private static void bribe() {
        promise = "21";
        ForkCouncil x = told("fork a 500 0 5 0;fork b 503 0 5 0;fork c 700 0 9 0;table 10;purse 0 7;");
        due("pence, beyond the purse", x.bribe(501, 4), 21);
        due("a", x.bribe(501, 0), 1);
        due("b", x.bribe(501, 1), -2);
        due("c", x.bribe(501, 2), 0);
        due("not so many", x.bribe(501, 3), -9);
        due("by none", x.bribe(550, 4), -8);
        due("by none, a", x.bribe(550, 0), -8);
        due("by none, not so many", x.bribe(550, 3), -9);
        due("nothing is filed", x.fork(0, 0), 500);
        due("note 99", x.bribe(99, 0), Integer.MIN_VALUE);
        due("note 1000", x.bribe(1000, 0), Integer.MIN_VALUE);
        due("what 5", x.bribe(501, 5), Integer.MIN_VALUE);
        due("what -1", x.bribe(501, -1), Integer.MIN_VALUE);
        x.touch(0, true);
        due("touched", x.bribe(501, 4), -8);
        x = told("fork a 500 9 5 0;fork b 500 9 5 0;table 5;purse 0 0;");
        due("for nothing the first", x.bribe(500, 0), -4);
        due("for nothing the first, too", x.bribe(500, 1), -4);
        due("for nothing", x.bribe(500, 4), 0);
        x = told("fork a 998 0 5 0;fork b 102 0 5 0;table 5;purse 0 1;law pass loud>=5 and note<>400;law hum 5*(pitch=996 or pitch=1000);");
        due("998 by -2", x.bribe(500, 0), -2);
        x = told("fork a 998 0 5 0;table 5;purse 0 1;law hum 5*(pitch>=1000);");
        due("999 at most", x.bribe(500, 4), -8);
        x = told("fork a 101 0 5 0;table 5;purse 0 1;law hum 5*(pitch<100);");
        due("100 at least", x.bribe(500, 4), -8);
        String laws = "table 5;purse 0 1;law hum 5*(pitch>=1000 or pitch<100);";
        due("999 at most, the second one", told("fork a 500 0 5 0;fork b 998 0 5 0;" + laws).bribe(500, 4), -8);
        due("100 at least, the second one", told("fork a 500 0 5 0;fork b 101 0 5 0;" + laws).bribe(500, 4), -8);
        due("the first one may, at the edge of the second", told("fork a 502 0 5 0;fork b 999 0 0 0;table 5;").bribe(500, 4), 10);
        x = told("fork a 300 0 1 0;fork b 300 0 1 0;fork c 300 0 1 0;fork d 300 0 1 0;fork e 501 0 9 0;fork f 500 0 3 0;table 4;");
        due("only the first four are filed", x.bribe(500, 4), -8);
        due("the fifth hums", x.bribe(501, 4), 0);
        x = told("fork a 501 0 4 0;fork b 501 0 4 0;fork c 499 0 4 0;table 4;purse 0 3;");
        due("the first from -4 up", x.bribe(500, 0), -1);
        due("others stay", x.bribe(500, 2), 0);
        due("pence of one", x.bribe(500, 4), 3);
        x = told("fork a 499 0 4 0;fork b 501 0 4 0;table 4;purse 0 3;");
        due("0 comes ahead of 1", x.bribe(500, 0), 0);
        due("the second one", x.bribe(500, 1), -1);
        due("less hum may carry", told("fork a 500 0 4 0;law pass loud=0;").bribe(500, 0), -1);
    }

    private static void swing() {
        promise = "22";
        ForkCouncil x = told("fork a 500 0 5 0;fork b 500 0 4 0;fork c 500 0 3 0;fork d 700 0 9 0;table 8;law pass 1;");
        // Of b, c (and d, who doesn't hum): 4 and 3 alone, 7 together.
        due("a: b, c, both", x.swing(0, 500), 6);
        due("b: a", x.swing(1, 500), 2);
        due("c: a", x.swing(2, 500), 2);
        due("d", x.swing(3, 500), 0);
        x.touch(0, true);
        due("a touched", x.swing(0, 500), 0);
        due("then b", x.swing(1, 500), 0);
        due("fork 4", x.swing(4, 500), -1);
        due("fork -1", x.swing(-1, 500), -1);
        due("note 1000", x.swing(0, 1000), -1);
        due("note 99", x.swing(0, 99), -1);
        due("alone", told("fork a 500 0 9 0;table 9;").swing(0, 500), 1);
        due("alone, not enough", told("fork a 500 0 8 0;table 9;").swing(0, 500), 0);
        due("eight", told(times("fork # 500 0 1 0;", 8) + "table 4;").swing(7, 500), 35);
    }

    private static void censure() {
        promise = "23";
        ForkCouncil x = told("fork a 500 0 2 0;fork b 500 0 5 0;fork c 500 0 5 0;fork d 500 0 9 0;table 10;");
        due("21: two of them, the least bits", x.censure(500), 10);
        x.touch(0, true);
        due("19: d alone leaves 10, b and c do", x.censure(500), 6);
        x.touch(3, true);
        due("10: one does, the least bits", x.censure(500), 2);
        x.touch(1, true);
        due("it wouldn't be", x.censure(500), 0);
        due("note 99", x.censure(99), -1);
        due("note 1000", x.censure(1000), -1);
        due("by none", told("fork a 500 0 2 0;law pass 1;").censure(500), -2);
        due("without forks by none", told("law pass 1;").censure(500), -2);
        x = told("fork a 500 0 2 0;fork b 500 0 3 0;law pass loud<>2;");
        due("by the law", x.censure(500), 2);
    }

    private static void party() {
        promise = "24";
        ForkCouncil x = told("fork a 500 0 2 0;fork b 500 0 5 3;fork c 500 0 4 3;fork d 700 0 9 3;");
        due("party 0", x.party(0, 500), 2);
        due("party 3", x.party(3, 500), 9);
        due("party 1", x.party(1, 500), 0);
        x.touch(1, true);
        due("touched", x.party(3, 500), 4);
        due("party 4", x.party(4, 500), -1);
        due("party -1", x.party(-1, 500), -1);
        due("note 99", x.party(0, 99), -1);
        due("note 1000", x.party(0, 1000), -1);
    }

    private static void rests() {
        promise = "25, 26";
        // Carried, if the first one is at 500; the second one has nothing to change by it.
        ForkCouncil x = told("fork a 501 0 9 0;fork b 700 0 9 0;table 9;purse 0 3;");
        due("one rest", x.rests(0, 1, 500), 1);
        due("a by -1, b by 0", x.rest(0, 1, 500, 0), 12);
        due("no second", x.rest(0, 1, 500, 1), -2);
        due("the other way: b has nothing to gain, a stays", x.rests(1, 0, 500), 1);
        due("a stays", x.rest(1, 0, 500, 0), 22);
        due("alike", x.rests(0, 0, 500), -1);
        due("alike, the rest", x.rest(1, 1, 500, 0), -1);
        due("fork 2", x.rests(0, 2, 500), -1);
        due("fork -1", x.rests(-1, 0, 500), -1);
        due("note 99", x.rests(0, 1, 99), -1);
        due("note 1000", x.rest(0, 1, 1000, 0), -1);
        due("k -1", x.rest(0, 1, 500, -1), -1);
        due("nothing is filed", x.fork(0, 0), 501);
        x = told("fork a 501 0 9 0;fork b 700 0 9 0;table 9;purse 0 0;");
        due("for nothing: a by -1, b as it likes", x.rests(0, 1, 500), 5);
        for (int k = 0; k < 5; k++) {
            due("by the second one's", x.rest(0, 1, 500, k), 10 + k);
        }
        due("20 for 20 is no more", told("fork a 501 0 9 0;fork b 700 0 9 0;table 9;purse 0 20;").rests(0, 1, 500), 2);
        x = told("fork a 501 0 9 0;fork b 700 0 9 0;table 9;purse 0 20;");
        due("by the first one's", x.rest(0, 1, 500, 0), 12);
        due("then", x.rest(0, 1, 500, 1), 22);
        x = told("fork a 501 0 9 0;fork b 501 0 9 0;table 9;purse 0 1;law pass loud=9;");
        due("each would undo the other: none", x.rests(0, 1, 500), 0);
        due("none", x.rest(0, 1, 500, 0), -2);
        // Carried as it is; the second one may undo it by one, and would have 1 of it, or 0.
        x = told("fork a 700 0 9 0;fork b 500 0 9 0;table 9;purse 0 19;");
        due("1 is more than 0", x.rest(0, 1, 500, 0), 21);
        due("up or down", x.rest(0, 1, 500, 1), 23);
        due("and no more", x.rests(0, 1, 500), 2);
        x = told("fork a 700 0 9 0;fork b 500 0 9 0;table 9;purse 0 20;");
        due("0 isn't: it may stay, too", x.rests(0, 1, 500), 3);
        // Held at 100 a and b can't get away, whatever they file.
        x = told("fork a 100 0 9 0;fork b 100 0 9 0;purse 0 0;law pass loud>0;law hum pitch=100;");
        due("held within", x.rests(0, 1, 500), 15);
    }

    private static void likely() {
        promise = "27";
        ForkCouncil x = told("fork a 500 2 9 0;motion m 497 3;motion n 600 0;motion k 495 0;motion j 490 0;table 9;");
        due("497: wet 1 .. 5", x.likely(0, 0), 1);
        due("of two", x.likely(0, 1), 2);
        due("600: never", x.likely(1, 0), 0);
        due("never, below", x.likely(1, 1), 1);
        due("490: wet 8, 9", x.likely(3, 0), 1);
        due("of five", x.likely(3, 1), 5);
        x.go(1);
        due("a struck one, too", x.likely(2, 0), 1);
        due("a struck one, too", x.likely(2, 1), 2);
        x.touch(0, true);
        due("touched", x.likely(0, 0), 0);
        due("motion 4", x.likely(4, 0), -1);
        due("motion -1", x.likely(-1, 0), -1);
        due("what 2", x.likely(0, 2), -1);
        due("what -1", x.likely(0, -1), -1);
        x = told("motion m 500 0;motion n 500 0;wet 9;law pass damp<7-day;");
        due("7 of 10", x.likely(0, 0), 7);
        due("7 of 10", x.likely(0, 1), 10);
        x.go(1);
        due("on today's day", x.likely(1, 0), 3);
        due("on today's day", x.likely(1, 1), 5);
        due("always", told("motion m 500 0;law pass 1;").likely(0, 0), 1);
        due("always", told("motion m 500 0;law pass 1;").likely(0, 1), 1);
    }

    private static void order() {
        promise = "28";
        ForkCouncil x = told("fork a 500 0 9 0;motion m 498 9;motion n 500 9;motion k 700 1;motion j 499 9;motion i 497 3;"
            + "motion h 500 0;table 9;rusty 1;");
        due("m", x.order(4, 0), 2);
        due("n", x.order(4, 1), 0);
        due("k on none: the first", x.order(4, 2), 0);
        due("j", x.order(4, 3), 1);
        due("with i, h on theirs", x.order(4, 4), 5);
        due("two days: m on none", x.order(2, 0), 0);
        due("two days", x.order(2, 4), 3);
        due("one day", x.order(1, 4), 2);
        due("one day, j", x.order(1, 3), 0);
        due("what 5", x.order(2, 5), -1);
        due("what -1", x.order(2, -1), -1);
        due("0 days", x.order(0, 0), -1);
        due("5 days", x.order(5, 0), -1);
        due("nothing is put off", x.motion(0, 1), 9);
        x.go(1);
        due("from today on: m", x.order(3, 0), 1);
        due("from today on: n", x.order(3, 1), 0);
        due("from today on: j", x.order(3, 3), 0);
        // h was struck on day 0.
        due("from today on", x.order(3, 4), 3);
        x.touch(0, true);
        due("touched today: j", x.order(3, 3), 0);
        due("touched today", x.order(3, 4), 2);
        x = told("fork a 500 0 9 0;motion m 500 0;motion n 500 5;table 9;");
        x.go(1);
        due("n is the first one now", x.order(1, 0), 0);
        due("not so many", x.order(1, 1), -2);
        due("one", x.order(1, 4), 1);
    }

    private static void room() {
        promise = "29";
        ForkCouncil x = told("fork a 500 3 9 0;wet 0;wet 5;");
        due("none needed", x.room(0, 503), 0);
        due("up by one", x.room(0, 504), 1);
        due("down", x.room(0, 490), 7);
        due("by an octave", x.room(0, 252), 1);
        due("by an octave above", x.room(0, 996), 1);
        due("by an octave above, none needed", x.room(0, 997), 0);
        due("fork 1", x.room(1, 500), -1);
        due("fork -1", x.room(-1, 500), -1);
        due("note 99", x.room(0, 99), -1);
        due("note 1000", x.room(0, 1000), -1);
        x.touch(0, true);
        due("touched or not", x.room(0, 504), 1);
        x.go(1);
        due("by wet", x.room(0, 500), 2);
        due("up to 999", told("fork a 100 0 9 0;").room(0, 999), 899);
        due("by none", told("fork a 100 0 9 0;wet 9;").room(0, 999), -2);
        due("by none beyond 999", told("fork a 990 0 9 0;wet 9;").room(0, 993), -2);
        due("just 999", told("fork a 990 3 9 0;wet 9;").room(0, 993), 9);
    }

    private static void minutes() {
        promise = "30";
        ForkCouncil x = told("fork a 500 20 9 0;motion m 510 0;motion n 530 0;table 9;");
        due("the first", x.minute(1, true), 0);
        due("motion 2", x.minute(2, true), -1);
        due("motion -1", x.minute(-1, true), -1);
        promise = "31";
        due("itself", x.out(1), -1);
        due("-1", x.out(-1), -1);
        due("one ahead", x.out(0), 1);
        due("one that strikes", x.out(1), 2);
        for (int i = 3; i < 23; i++) {
            promise = "30";
            due("more", x.minute(0, true), i);
        }
        promise = "31";
        due("the last", x.out(22), 23);
        due("there are 24", x.out(0), -1);
        promise = "30";
        due("there are 24", x.minute(0, true), -1);
        due("minutes", x.count(12), 24);
        promise = "32";
        due("known by 24", x.known(24), true);
        due("known by 25", x.known(25), false);
        due("known by -2", x.known(-2), false);
        due("known by 3", x.known(3), true);
        due("by how many", x.count(13), 3);
        due("known by all", x.known(-1), true);
        due("by how many", x.count(13), 24);
        x = told("motion m 500 0;");
        due("known by 0", x.known(0), true);
        due("known by 1", x.known(1), false);
        x.minute(0, true);
        due("by how many: those to come aren't", x.count(13), 0);
        x.known(-1);
        x.minute(0, true);
        due("by how many: also those to come", x.count(13), 2);
    }

    private static void widths() {
        promise = "33";
        ForkCouncil x = told("fork a 500 20 9 0;fork b 600 0 1 0;motion m 525 0;motion n 560 3;table 9;rusty 5;");
        due("nothing is known", x.widths(0), 1023);
        x.minute(0, true);
        due("30 up", x.widths(0), 1016);
        due("another fork's width can't help", x.widths(1), 0);
        // On day 3 its pitch is 485: 75 off.
        x.minute(1, false);
        due("30 .. 70", x.widths(0), 8 + 16 + 32 + 64 + 128);
        x.known(1);
        due("known by the first one", x.widths(0), 1016);
        x.known(-1);
        x.out(0);
        due("the first one is struck", x.widths(0), 255);
        x.out(2);
        due("what struck is struck", x.widths(0), 248);
        x.out(3);
        due("and again", x.widths(0), 255);
        x.known(3);
        due("known by three", x.widths(0), 255);
        x.known(4);
        due("known by four", x.widths(0), 248);
        x.known(-1);
        x.file(0, 9);
        x.put(1, 0);
        x.touch(0, true);
        x.go(4);
        due("nothing done by call", x.widths(0), 255);
        due("its own width stays", x.fork(0, 1), 20);
        due("fork 2", x.widths(2), -1);
        due("fork -1", x.widths(-1), -1);
        x = told("fork a 500 20 9 0;motion m 500 1;law rust width/10;law hum pitch=497;law pass loud;");
        x.minute(0, true);
        due("by the law of rust", x.widths(0), 8);
        x = told("fork a 500 20 9 0;motion m 500 99;law rust day<width;law hum pitch=450;law pass loud;");
        x.minute(0, true);
        due("on day 99", x.widths(0), 1 << 5);
    }

    private static void chance() {
        promise = "34";
        // From 1 on the numbers are 16838, 5758, 10113, 17515, 31051, 5627, 23010, 7419, 16212, 4086:
        // modulo 10 these are 8, 8, 3, 5, 1, 7, 0, 9, 2, 6.
        ForkCouncil x = told("motion m 500 0;law pass damp>=5;");
        due("8 8 5 7 9 6", x.chance(1, 1, 1), 6);
        due("none at least", x.chance(1, 1, 0), 10);
        due("two", x.chance(1, 1, 2), 0);
        x = told("motion m 500 0;motion n 500 1;law pass damp>=5;wet 9;");
        // Then come 2749, 12767, 9084, 12060, 32225, 17543, 25089, 21183, 25137, 25566:
        // by twos 8 8, 3 5, 1 7, 0 9, 2 6, 9 7, 4 0, 5 3, 9 3, 7 6.
        due("two days each, both", x.chance(1, 2, 2), 3);
        due("two days each, one", x.chance(1, 2, 1), 9);
        due("seed -1", x.chance(-1, 1, 1), -1);
        due("0 days", x.chance(1, 0, 1), -1);
        due("100 days", x.chance(1, 100, 1), -1);
        due("carried -1", x.chance(1, 1, -1), -1);
        due("carried 11", x.chance(1, 1, 11), -1);
        due("the largest", x.chance(Integer.MAX_VALUE, 99, 0), 10);
        due("the least", x.chance(0, 99, 10), 0);
        due("nothing went by", x.count(5), 0);
        x.go(1);
        due("more than now", x.chance(1, 1, 1), 6);
    }

    private static void tried() {
        promise = "35";
        ForkCouncil x = told("fork a 500 0 5 0;fork b 500 0 4 0;fork c 700 0 3 0;crack c;motion m 500 0;motion n 500 2;"
            + "motion k 300 0;motion j 496 3;table 8;wet 0;wet 0;wet 1;rusty 1;");
        due("as it goes: m", x.tried(0, 0, 4), 1);
        due("as it goes, 0 days", x.tried(0, 0, 0), 0);
        due("no wet", x.tried(1, 0, 4), 1);
        due("without c: 9", x.tried(2, 2, 4), 1);
        due("without a: 7", x.tried(2, 0, 4), 0);
        due("without b: 8", x.tried(2, 1, 4), 1);
        due("no rust: n is wet", x.tried(3, 0, 4), 1);
        due("none is cracked", x.tried(4, 0, 4), 1);
        x.touch(0, true);
        due("a is touched", x.tried(0, 0, 4), 0);
        due("none is touched", x.tried(5, 0, 4), 1);
        x.touch(0, false);
        x.touch(2, true);
        due("c is touched", x.tried(0, 0, 4), 1);
        due("still touched", x.count(11), 1);
        due("what 6", x.tried(6, 0, 4), -1);
        due("what -1", x.tried(-1, 0, 4), -1);
        due("i 1", x.tried(0, 1, 4), -1);
        due("i 1 of 5", x.tried(5, 1, 4), -1);
        due("fork 3", x.tried(2, 3, 4), -1);
        due("fork -1", x.tried(2, -1, 4), -1);
        due("100 days", x.tried(0, 0, 100), -1);
        due("-1 days", x.tried(0, 0, -1), -1);
        x = told("fork a 500 0 9 0;motion m 500 1;motion n 499 1;motion k 495 2;table 9;wet 0;wet 4;wet 4;rusty 1;law rust 1;");
        due("495, 494", x.tried(0, 0, 9), 0);
        due("no wet: 499, 498", x.tried(1, 0, 9), 1);
        due("no rust: 496, 496", x.tried(3, 0, 9), 0);
        x = told("fork a 500 0 4 0;crack a;motion m 700 1;table 4;");
        due("cracked", x.tried(0, 0, 9), 1);
        due("not cracked", x.tried(4, 0, 9), 0);
        due("it stays", x.fork(0, 4), 1);
        due("without any", x.tried(2, 0, 9), 0);
        x = told("fork a 500 0 4 0;motion m 700 0;law hum 7;law pass loud=0;");
        due("without it none hums, whatever the law", x.tried(2, 0, 1), 1);
    }

    private static void undo() {
        promise = "36";
        ForkCouncil x = told("fork a 500 0 5 0;motion m 500 3;purse 90 2;");
        due("none", x.undo(), -1);
        x.touch(0, true);
        x.file(0, -7);
        x.put(0, 8);
        x.earn(50);
        x.touch(0, false);
        x.put(0, 8);
        x.file(0, 0);
        due("those that were", x.count(14), 5);
        due("touch", x.undo(), 4);
        due("touched again", x.fork(0, 5), 1);
        due("earn", x.undo(), 3);
        due("purse", x.count(6), 76);
        due("put", x.undo(), 2);
        due("day", x.motion(0, 1), 3);
        due("file", x.undo(), 1);
        due("pitch", x.fork(0, 0), 500);
        due("purse", x.count(6), 90);
        due("paid", x.count(7), 0);
        due("touch", x.undo(), 0);
        due("not touched", x.fork(0, 5), 0);
        due("none", x.undo(), -1);
        for (int i = 0; i < 23; i++) {
            x.earn(1);
        }
        due("20 at most", x.count(14), 20);
        for (int i = 19; i >= 0; i--) {
            due("undo", x.undo(), i);
        }
        due("none", x.undo(), -1);
        due("the first three stay", x.count(6), 93);
        ForkCouncil y = told("fork a 500 0 5 0;motion m 500 3;purse 0 0;");
        y.earn(7);
        y.file(0, 5);
        y.put(0, 50);
        for (int i = 0; i < 9; i++) {
            y.touch(0, true);
            y.put(0, 10 + i);
            y.touch(0, false);
        }
        due("the last 20 of 30", y.count(14), 20);
        for (int i = 19; i >= 0; i--) {
            due("undo of 30", y.undo(), i);
        }
        due("none of the first ten", y.undo(), -1);
        due("pence stay", y.count(6), 7);
        due("pitch stays", y.fork(0, 0), 505);
        due("the day of then", y.motion(0, 1), 11);
        due("touched then", y.fork(0, 5), 1);
        x.earn(1);
        x.go(0);
        due("no day went by", x.count(14), 1);
        x.go(100);
        due("no day went by", x.count(14), 1);
        x.go(1);
        due("a day went by", x.undo(), -1);
        due("it stays", x.count(6), 94);
    }

    private static void keepAndBack() {
        promise = "37, 38";
        ForkCouncil x = told("fork a 500 0 5 0;motion m 500 1;motion n 500 2;table 5;purse 90 2;");
        due("none", x.back(), -1);
        x.go(1);
        x.touch(0, true);
        x.file(0, 1);
        due("keep", x.keep(), 1);
        due("what can be undone stays", x.count(14), 2);
        x.touch(0, false);
        x.file(0, -1);
        x.earn(5);
        x.put(1, 1);
        x.minute(0, true);
        x.go(3);
        due("carried", x.count(8), 2);
        due("back", x.back(), 1);
        due("day", x.count(5), 1);
        due("pitch", x.fork(0, 0), 501);
        due("touched", x.fork(0, 5), 1);
        due("purse", x.count(6), 88);
        due("paid", x.count(7), 2);
        due("carried", x.count(8), 0);
        due("heard", x.count(10), 0);
        due("m", x.motion(0, 2), -1);
        due("n", x.motion(1, 1), 2);
        due("minutes stay", x.count(12), 1);
        due("nothing to undo", x.undo(), -1);
        x.go(7);
        due("back again", x.back(), 1);
        x.go(1);
        due("in place of one ahead", x.keep(), 2);
        x.go(1);
        due("the later one", x.back(), 2);
        due("m fell", x.motion(0, 2), 0);
    }

    private static void count() {
        promise = "39";
        ForkCouncil x = told(HALL + "law pass loud>=12;");
        int[] counts = {4, 2, 1, 2, 3, 0, 50, 0, 0, 0, 0, 0, 0, 0, 0};
        for (int i = 0; i < counts.length; i++) {
            due("count(" + i + ")", x.count(i), counts[i]);
        }
        x.file(0, 3);
        x.go(3);
        x.touch(1, true);
        x.touch(2, true);
        x.touch(3, true);
        x.minute(0, true);
        x.minute(1, true);
        x.known(1);
        // On day 1 at 440 it is 3 wet: ann 440, bo 440, cy 217, di cracked; on day 2 at 300 di alone.
        int[] later = {4, 2, 1, 2, 3, 3, 38, 12, 1, 1, 17, 3, 2, 1, 3};
        for (int i = 0; i < later.length; i++) {
            due("count(" + i + ") later", x.count(i), later[i]);
        }
        due("count(15)", x.count(15), -1);
        due("count(-1)", x.count(-1), -1);
    }
}

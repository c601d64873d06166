import java.math.BigInteger;
import java.nio.charset.StandardCharsets;
import java.util.Arrays;
import java.util.NoSuchElementException;

/**
 * Each sentence of the document that names a boundary, with its promise's number: the last value that is
 * taken and the first that isn't, on both sides; what is empty and what is full; what a refused call
 * answers, and that it leaves all as it was. All is worked out by hand.
 */
public final class BoundaryTest {
    private static final int NONE = -1;
    private static final long ERROR = Long.MIN_VALUE;
    private static final int LEAST = Integer.MIN_VALUE;
    private static final int MOST = Integer.MAX_VALUE;
    private static final int OUT_OF_BOUNDS = -1001;
    private static final int NO_ELEMENT = -1002;

    private static int wrong = 0;
    private static String sentence = "";

    interface Setup {
        ForkCouncil make();
    }

    interface Call {
        long on(ForkCouncil x);
    }

    private static void says(String promise, String words) {
        sentence = "promise " + promise + ", \"" + words + "\"";
    }

    private static void due(String what, long got, long want) {
        if (got != want) {
            wrong++;
            System.out.println(sentence + ": " + what + " answered " + got + ", due is " + want);
        }
    }

    private static void alike(String what, String got, String want) {
        if (!got.equals(want)) {
            wrong++;
            System.out.println(sentence + ": " + what + "\n  left    " + got + "\n  instead of " + want);
        }
    }

    private static long bit(boolean is) {
        return is ? 1 : 0;
    }

    private static int[] numbersOf(byte[] bytes, int at) {
        int[] n = new int[5];
        for (int j = 0; j < 20; j++) {
            n[j / 4] = n[j / 4] << 8 | (at + j < bytes.length ? bytes[at + j] & 255 : ' ');
        }
        return n;
    }

    private static void tape(ForkCouncil x, String text) {
        byte[] bytes = text.getBytes(StandardCharsets.ISO_8859_1);
        for (int i = 0; i < bytes.length; i += 20) {
            int[] n = numbersOf(bytes, i);
            x.feed(n[0], n[1], n[2], n[3], n[4]);
        }
    }

    private static int read(ForkCouncil x, String text) {
        tape(x, text);
        return x.text(text.length());
    }

    private static ForkCouncil told(String text) {
        ForkCouncil x = new ForkCouncil();
        if (read(x, text) < 0) {
            wrong++;
            System.out.println(sentence + ": fault " + x.fault(0) + " at " + x.fault(1) + " of " + text);
        }
        return x;
    }

    private static void fault(String text, int kind, int place) {
        ForkCouncil x = new ForkCouncil();
        due("text of " + text, read(x, text), NONE);
        due("fault(0) of " + text, x.fault(0), kind);
        due("fault(1) of " + text, x.fault(1), place);
    }

    private static void lines(String text, int lines) {
        ForkCouncil x = new ForkCouncil();
        due("text of " + text, read(x, text), lines);
        due("fault(0) of " + text, x.fault(0), 0);
        due("fault(1) of " + text, x.fault(1), NONE);
    }

    private static String times(String part, int n) {
        StringBuilder all = new StringBuilder();
        for (int i = 0; i < n; i++) {
            all.append(part.replace("#", "" + (char) ('a' + i)));
        }
        return all.toString();
    }

    private static int letters(String word) {
        int letters = 0;
        for (int i = 0; i < 6; i++) {
            letters = letters * 32 + (i < word.length() ? word.charAt(i) - 'a' + 1 : 0);
        }
        return letters;
    }

    private static long motion(ForkCouncil x, int motion, int what) {
        try {
            return x.motion(motion, what);
        } catch (IndexOutOfBoundsException e) {
            return OUT_OF_BOUNDS;
        } catch (NoSuchElementException e) {
            return NO_ELEMENT;
        }
    }

    /** A council in which nothing stands as at first: two days gone, an image, minutes, deeds, a fault, a tape. */
    private static ForkCouncil busy() {
        ForkCouncil x = told("fork a 500 3 9 0;fork b 400 5 2 1;fork c 990 0 4 3;crack c;motion m 500 0;motion n 400 2;"
            + "motion k 700 5;motion j 500 3;table 11;wet 0;wet 2;wet 1;purse 60 4;rusty 1;law pass loud>=9;");
        x.minute(0, true);
        x.minute(1, false);
        x.out(0);
        x.known(2);
        x.go(1);
        x.touch(1, true);
        x.keep();
        x.go(1);
        read(x, "wet 1;wet 10;");
        tape(x, "wet 7;wet 8;wet 9;");
        x.touch(0, true);
        x.file(1, 3);
        x.put(2, 9);
        x.earn(5);
        return x;
    }

    private static String look(ForkCouncil x) {
        StringBuilder seen = new StringBuilder();
        for (int what = 0; what <= 14; what++) {
            seen.append(x.count(what)).append(' ');
        }
        for (int fork = 0; fork < x.count(0); fork++) {
            seen.append("| ");
            for (int what = 0; what <= 5; what++) {
                seen.append(x.fork(fork, what)).append(' ');
            }
            seen.append(x.widths(fork)).append(' ');
        }
        for (int motion = 0; motion < x.count(1); motion++) {
            seen.append("/ ");
            for (int what = 0; what <= 3; what++) {
                seen.append(motion(x, motion, what)).append(' ');
            }
        }
        for (int day = 0; day < 4; day++) {
            seen.append(x.wet(day)).append(' ');
        }
        // What would come is part of what is seen: a call that tries something must not leave its trial behind.
        long[] asked = {x.struck(500, 0), x.struck(500, 1), x.ahead(9, 2, 0), x.ahead(3, 3, 0), x.tried(0, 0, 9), x.chance(1, 5, 1),
            x.order(4, 4), x.bribe(500, 4), x.rests(0, 1, 500), x.likely(3, 0), x.swing(0, 500), x.censure(500), x.best(0)};
        for (long one : asked) {
            seen.append(one).append(' ');
        }
        return seen.toString();
    }

    /** All that can be seen of a council: as it is, as each undo leaves it, as in its image, and its tape. */
    private static String all(ForkCouncil x) {
        StringBuilder seen = new StringBuilder();
        seen.append("fault ").append(x.fault(0)).append(' ').append(x.fault(1)).append(" now ").append(look(x));
        int left = x.undo();
        for (int i = 0; i < 24 && left >= 0; i++) {
            seen.append("undo ").append(left).append(' ').append(x.count(6)).append(' ').append(x.count(11)).append(' ');
            left = x.undo();
        }
        seen.append("undone ").append(look(x)).append("back ").append(x.back()).append(' ').append(look(x));
        int taped = x.feed(0x20202020, 0x20202020, 0x20202020, 0x20202020, 0x20202020);
        seen.append("tape ").append(taped).append(' ').append(taped < 0 ? 0 : x.text(taped)).append(' ');
        return seen.append(x.fault(0)).append(' ').append(x.count(3)).append(' ').append(x.wet(0)).append(x.wet(1)).toString();
    }

    private static void leaves(Setup setup, String name, Call call, long want) {
        ForkCouncil x = setup.make();
        due(name, call.on(x), want);
        alike(name, all(x), all(setup.make()));
    }

    private static void leaves(String name, Call call, long want) {
        leaves(BoundaryTest::busy, name, call, want);
    }

    public static void main(String[] args) {
        calls();
        words();
        blanks();
        numbers();
        whatNumbersTell();
        untold();
        howMany();
        tokensThatCantStand();
        signs();
        moreMustCome();
        brackets();
        knots();
        toldAlready();
        toldAhead();
        theFirstFault();
        beatsAndHums();
        carried();
        values();
        days();
        rust();
        newObject();
        feed();
        text();
        textWithFault();
        textAnew();
        textsInARow();
        faults();
        named();
        motions();
        forks();
        wet();
        notes();
        law();
        touch();
        file();
        put();
        earn();
        go();
        ahead();
        best();
        open();
        bribe();
        bribeSteps();
        swing();
        censure();
        party();
        rests();
        likely();
        order();
        orderFull();
        room();
        minutes();
        known();
        widths();
        chance();
        tried();
        undo();
        images();
        count();
        wildNumbers();
        System.out.println(wrong == 0 ? "all boundaries hold" : wrong + " answers are not as due");
        if (wrong != 0) {
            System.exit(1);
        }
    }

    // ---- What it is

    private static final String FULL = times("fork # 500 9 9 0;", 8) + times("motion # 500 0;", 10) + times("wet 1;", 8)
        + "table 9;law hum " + times("not ", 20) + "beats<9;law rust day" + times("+1", 10) + ";law pass not (loud" + times("+1", 8) + "=0);";

    private static void calls() {
        says("1", "An object is used for at most 512 calls");
        ForkCouncil x = new ForkCouncil();
        int made = (FULL.length() + 19) / 20 + 1;
        due("a text that fills all", read(x, FULL), 8 + 10 + 8 + 1 + 3);
        due("knots", told(FULL).count(4), 64);
        for (; made + 6 <= 512; made += 6) {
            due("bribe at call " + made, x.bribe(500, 4), 0);
            due("chance at call " + made, x.chance(1, 99, 10), 10);
            due("widths at call " + made, x.widths(7), 1023);
            due("open at call " + made, x.open(), 900);
            due("rests at call " + made, x.rests(0, 7, 500), 1);
            due("ahead at call " + made, x.ahead(99, 0, 0), 10);
        }
        ForkCouncil y = new ForkCouncil();
        for (int i = 1; i < 512; i++) {
            y.go(i % 2);
        }
        due("the 512th call", y.go(1), 257);
    }

    // ---- Terms: the TEXT

    private static final String[] LANGUAGE = {"fork", "crack", "motion", "table", "wet", "purse", "rusty", "seed", "law", "hum",
        "rust", "pass", "or", "and", "not", "pitch", "note", "width", "loud", "beats", "damp", "day"};

    private static void words() {
        says("3", "W: one of 1 .. 6 letters");
        lines("fork a 100 0 0 0;crack a;motion z 100 0;", 3);
        lines("fork abcdef 100 0 0 0;crack abcdef;motion uvwxyz 100 0;", 3);
        fault("fork abcdefg 100 0 0 0;", 1, 5);
        fault("motion abcdefg 100 0;", 1, 7);
        fault("fork abcdef 100 0 0 0;crack abcdefg;", 1, 28);
        fault("fork 100 0 0 0;", 1, 5);
        fault("motion 100 0;", 1, 7);
        fault("crack ;", 1, 6);
        says("3", "a word of more than 6 letters that is none of the language");
        fault("abcdefg", 1, 0);
        fault("motions m 100 0;", 1, 0);
        fault("law hum pitchpi;", 1, 8);
        fault("law passpas 1;", 1, 4);
        fault("law hum 1 orororo 1;", 1, 10);
        fault("wet abcdefg;", 1, 4);
        says("3", "none of those of the language");
        for (String word : LANGUAGE) {
            fault("fork " + word + " 100 0 0 0;", 1, 5);
            fault("motion " + word + " 100 0;", 1, 7);
            fault("crack " + word + ";", 1, 6);
            String longer = word.length() < 6 ? word + "a" : "a" + word.substring(1);
            lines("fork " + longer + " 100 0 0 0;motion " + longer + " 100 0;", 2);
            String shorter = word.substring(0, word.length() - 1);
            if (!Arrays.asList(LANGUAGE).contains(shorter)) {
                lines("motion " + shorter + " 100 0;", 1);
            }
        }
        says("3", "small letters in a row");
        lines("fork az 100 0 0 0;", 1);
        fault("fork `a 100 0 0 0;", 1, 5);
        fault("fork {a 100 0 0 0;", 1, 5);
        fault("fork A 100 0 0 0;", 1, 5);
        fault("fork Z 100 0 0 0;", 1, 5);
        fault("fork a_ 100 0 0 0;", 1, 6);
        fault("wet /;", 1, 4);
        fault("wet :;", 1, 4);
        lines("wet 0;wet 9;", 2);
    }

    private static void blanks() {
        says("3", "Blanks 10, 32");
        for (int sign = 0; sign < 256; sign++) {
            String text = "wet 1;" + (char) sign + "wet 2;";
            if (sign == 10 || sign == 32) {
                lines(text, 2);
                lines("wet" + (char) sign + "1" + (char) sign + ";", 1);
            } else {
                fault(text, 1, 6);
                fault((char) sign + ";", 1, 0);
            }
        }
        lines(" \n  wet\n\n1 \n; \n", 1);
        lines("fork a 100 0 0 0;crack a;table 1;law hum not 1;", 4);
        lines("fork a100 0 0 0;crack a;table1;law hum not1;", 4);
        fault("we t 1;", 1, 0);
        fault("wet 1 2;", 1, 6);
    }

    /** The last numbers that are taken and the first that aren't, and such as would come back from a wrap-around. */
    private static void bounds(String head, String tail, int least, int most) {
        says("3", "a number beyond what is said: " + head + least + " .. " + most + tail);
        lines(head + least + tail, 1);
        lines(head + most + tail, 1);
        lines(head + "000000000000000000000" + most + tail, 1);
        int place = head.length();
        fault(head + (most + 1) + tail, 2, place);
        fault(head + (most + 1), 2, place);
        fault(head + most + "0" + tail, 2, place);
        fault(head + times("9", 40) + tail, 2, place);
        if (least > 0) {
            fault(head + (least - 1) + tail, 2, place);
            fault(head + "0" + tail, 2, place);
        }
        for (int bits = 8; bits <= 64; bits += 8) {
            BigInteger wrap = BigInteger.ONE.shiftLeft(bits);
            BigInteger wrapped = wrap.add(BigInteger.valueOf(most));
            if (wrapped.compareTo(BigInteger.valueOf(most)) > 0 && wrap.compareTo(BigInteger.valueOf(most)) > 0) {
                fault(head + wrapped + tail, 2, place);
                fault(head + wrap.add(BigInteger.valueOf(least)) + tail, 2, place);
            }
        }
        fault(head + "-1" + tail, 1, place);
    }

    private static void numbers() {
        bounds("fork f ", " 0 0 0;", 100, 999);
        bounds("fork f 100 ", " 0 0;", 0, 99);
        bounds("fork f 100 0 ", " 0;", 0, 9);
        bounds("fork f 100 0 0 ", ";", 0, 3);
        bounds("motion m ", " 0;", 100, 999);
        bounds("motion m 100 ", ";", 0, 99);
        bounds("table ", ";", 1, 99);
        bounds("wet ", ";", 0, 9);
        bounds("purse ", " 0;", 0, 999);
        bounds("purse 0 ", ";", 0, 99);
        bounds("rusty ", ";", 0, 9);
        bounds("seed ", ";", 0, 99999);
        bounds("law hum ", ";", 0, 9999);
        bounds("law rust 1+", ";", 0, 9999);
        bounds("law pass not (", ");", 0, 9999);
    }

    private static void whatNumbersTell() {
        says("3", "PITCH 100 .. 999, WIDTH 0 .. 99, LOUD 0 .. 9, PARTY 0 .. 3");
        ForkCouncil x = told("fork a 100 0 0 0;fork b 999 99 9 3;motion m 100 0;motion n 999 99;");
        int[] least = {100, 0, 0, 0};
        int[] most = {999, 99, 9, 3};
        for (int what = 0; what < 4; what++) {
            due("the least, fork(0, " + what + ")", x.fork(0, what), least[what]);
            due("the most, fork(1, " + what + ")", x.fork(1, what), most[what]);
        }
        says("3", "NOTE 100 .. 999, the DAY 0 .. 99");
        due("the least NOTE", motion(x, 0, 0), 100);
        due("the least DAY", motion(x, 0, 1), 0);
        due("the most NOTE", motion(x, 1, 0), 999);
        due("the most DAY", motion(x, 1, 1), 99);
        says("3", "table: 1 .. 99");
        due("1 by 0", told("fork a 500 0 0 0;table 1;").struck(500, 1), 0);
        due("1 by 1", told("fork a 500 0 1 0;table 1;").struck(500, 1), 1);
        due("99 by 98", told("fork a 500 0 1 0;table 99;law hum 98;").struck(500, 1), 0);
        due("99 by 99", told("fork a 500 0 1 0;table 99;law hum 99;").struck(500, 1), 1);
        says("3", "purse: PENCE 0 .. 999, price of filing by one 0 .. 99");
        due("0 PENCE", told("purse 0 99;").count(6), 0);
        due("999 PENCE", told("purse 999 0;").count(6), 999);
        due("0 by one", told("fork a 500 0 0 0;purse 0 0;").file(0, 99), 599);
        x = told("fork a 500 0 0 0;purse 99 99;");
        due("99 by one", x.file(0, 1), 501);
        due("99 are PAID", x.count(7), 99);
        says("3", "rusty: 0 .. 9");
        due("0", told("fork a 500 0 0 0;rusty 0;").ahead(1, 3, 0), 500);
        due("9", told("fork a 500 0 0 0;rusty 9;").ahead(1, 3, 0), 491);
        says("3", "N of E 0 .. 9999");
        due("0", told("fork a 500 0 0 0;law rust 0;").law(1, 0, 0), 0);
        due("9999", told("fork a 500 0 0 0;law rust 9999;").law(1, 0, 0), 9999);
    }

    private static void untold() {
        says("3", "table (10)");
        due("9 without", told("fork a 500 0 9 0;").struck(500, 1), 0);
        due("10 without", told("fork a 500 0 9 0;fork b 500 0 1 0;").struck(500, 1), 1);
        says("3", "wet: 0 without");
        for (int day : new int[] {0, 1, 8, 9999}) {
            due("wet(" + day + ")", told("table 1;").wet(day), 0);
        }
        says("3", "purse: 100, 5 without");
        ForkCouncil x = told("fork a 500 0 0 0;");
        due("purse", x.count(6), 100);
        due("21 are 105", x.file(0, 21), -2);
        due("20 are 100", x.file(0, 20), 520);
        due("purse", x.count(6), 0);
        says("3", "rusty (0)");
        due("without", told("fork a 500 0 0 0;").ahead(99, 3, 0), 500);
        says("3", "without is what a text doesn't tell, whatever one ahead told");
        x = told("fork a 500 0 9 0;crack a;table 1;wet 9;purse 7 7;rusty 9;law hum 1;law rust 1;law pass 1;");
        read(x, "table 2;");
        read(x, "fork a 500 0 9 0;");
        due("table", x.struck(500, 1), 0);
        due("wet", x.wet(0), 0);
        due("purse", x.count(6), 100);
        due("price", x.file(0, 20), 520);
        due("rusty", x.ahead(1, 3, 0), 520);
        due("hum", x.hums(0, 520), 9);
        due("cracked", x.count(2), 0);
        for (int what = 0; what < 3; what++) {
            due("law " + what, x.law(what, 0, 500), ERROR);
        }
    }

    private static void howMany() {
        says("3", "FORKS, at most 8");
        String eight = times("fork # 500 0 1 0;", 8);
        lines(eight, 8);
        due("the eighth", told(eight).fork(7, 0), 500);
        fault(eight + "fork i 500 0 1 0;", 2, eight.length());
        fault(eight + "  fork", 2, eight.length() + 2);
        fault(eight + "fork a 500 0 1 0;", 2, eight.length());
        says("3", "crack: a FORK is CRACKED (each once)");
        due("all eight", told(eight + times("crack #;", 8)).count(2), 8);
        due("none", told(eight).count(2), 0);
        fault(eight + times("crack #;", 8) + "crack h;", 3, eight.length() + 64 + 6);
        fault(eight + "crack h;crack a;crack h;", 3, eight.length() + 16 + 6);
        says("3", "MOTIONS, at most 10");
        String ten = times("motion # 500 0;", 10);
        lines(ten, 10);
        due("the tenth", motion(told(ten), 9, 0), 500);
        fault(ten + "motion k 500 0;", 2, ten.length());
        fault(ten + "motion", 2, ten.length());
        fault(ten + "motion a 500 0;", 2, ten.length());
        says("3", "wet, at most 8");
        lines(times("wet 3;", 8), 8);
        due("the eighth", told(times("wet 3;", 7) + "wet 5;").wet(7), 5);
        fault(times("wet 3;", 9), 2, 48);
        fault(times("wet 3;", 8) + "wet", 2, 48);
        says("3", "of DAY 0 on, and again from the first one on");
        ForkCouncil x = told("wet 1;wet 2;wet 3;wet 4;wet 5;wet 6;wet 7;wet 8;");
        due("wet(0)", x.wet(0), 1);
        due("wet(7)", x.wet(7), 8);
        due("wet(8)", x.wet(8), 1);
        due("wet(9999)", x.wet(9999), 8);
        due("one wet", told("wet 6;").wet(1), 6);
    }

    // ---- Terms: the FAULTS

    private static void tokensThatCantStand() {
        says("4", "1 a TOKEN that is none or can't stand there");
        String[] tokens = {"fork", "or", "5", "(", ")", "+", "<=", ";", "abc", "hum", "pitch", "Q", "%", "'", "!", "."};
        for (String token : tokens) {
            fault("table " + (token.equals("5") ? ";" : token), 1, 6);
            fault("table 5 " + (token.equals(";") ? "5" : token), 1, 8);
            fault("fork a 500 0 0 " + (token.equals("5") ? "x" : token), 1, 15);
            fault("purse 5 " + (token.equals("5") ? "x" : token), 1, 8);
            fault("law " + (token.equals("hum") ? "5" : token), 1, 4);
            if (!token.equals("fork")) {
                fault("wet 1; " + token, 1, 7);
            }
            if (!token.equals("5") && !token.equals("(") && !token.equals("pitch")) {
                fault("law hum " + token, 1, 8);
                fault("law hum 1+" + token, 1, 10);
                fault("law hum (1*" + token, 1, 11);
                fault("law hum not " + token, 1, 12);
                fault("law hum 1=" + token, 1, 10);
                fault("law hum 1 and " + token, 1, 14);
                fault("law hum 1 or " + token, 1, 13);
            }
            if (!token.equals("+") && !token.equals("<=") && !token.equals("or") && !token.equals(";")) {
                fault("law hum 1 " + token, 1, 10);
                fault("law hum (1) " + token, 1, 12);
            }
            if (!token.equals("+") && !token.equals("<=") && !token.equals("or") && !token.equals(")")) {
                fault("law hum (1 " + token, 1, 11);
            }
        }
        says("4", "C: S [ one comparison S ], B: not B | C");
        fault("law hum 1<2<3;", 1, 11);
        fault("law hum 1=2>=3;", 1, 11);
        lines("law hum (1<2)<3;", 1);
        lines("law hum 1<2 and 3<4 or 5<6;", 1);
        fault("law hum 1+not 2;", 1, 10);
        fault("law hum 1=not 2;", 1, 10);
        lines("law hum 1=(not 2);", 1);
        lines("law hum not not 2 and not 1=2;", 1);
    }

    private static void signs() {
        says("3", "A = (or > behind <) right behind < or > belongs to it");
        String[] taken = {"<", "<=", "=", "<>", ">=", ">", "+", "-", "*", "/"};
        for (String sign : taken) {
            lines("law hum 1" + sign + "2;", 1);
            lines("law hum 1 " + sign + " 2;", 1);
        }
        String[] apart = {"< =", "> =", "< >", "= =", "> <", "+ +"};
        for (String sign : apart) {
            fault("law hum 1" + sign + "2;", 1, 11);
        }
        String[] none = {"==", "=<", "=>", "><", ">>", "<<", "++", "--", "+-", "-="};
        for (String sign : none) {
            fault("law hum 1" + sign + "2;", 1, 10);
        }
        String[] longer = {"<>=", "<==", ">==", "<=>", "<><", ">=>"};
        for (String sign : longer) {
            fault("law hum 1" + sign + "2;", 1, 11);
        }
        ForkCouncil x = told("fork a 500 0 9 0;law rust 1<>2;law hum 2<=2;law pass 2>=2;");
        due("<> is one sign", x.law(1, 0, 0), 1);
        due("<= is one sign", x.law(0, 0, 500), 1);
        due(">= is one sign", x.law(2, 0, 500), 1);
        due("one knot each", x.count(4), 9);
    }

    /** Each beginning of a text: how many lines it has, or where more must come. */
    private static void beginnings(String text, int... dues) {
        for (int n = 0; n <= text.length(); n++) {
            ForkCouncil x = new ForkCouncil();
            tape(x, text);
            int lines = x.text(n);
            String head = "the first " + n + " of " + text;
            if (dues[n] >= 1000) {
                due(head, lines, dues[n] - 1000);
                due("fault(1) of " + head, x.fault(1), NONE);
            } else {
                due(head, lines, NONE);
                due("fault(0) of " + head, x.fault(0), 1);
                due("fault(1) of " + head, x.fault(1), dues[n]);
            }
        }
    }

    private static void moreMustCome() {
        says("4", "the length, if more must come");
        beginnings("wet 1;\n table 22 ; ", 1000, 0, 0, 3, 4, 5, 1001, 1001, 1001, 8, 8, 8, 8, 13, 14, 15, 16, 17, 1002, 1002);
        beginnings("crack ;", 1000, 0, 0, 0, 0, 5, 6, 6);
        beginnings("law hum(1<>day)*2;", 1000, 0, 0, 3, 4, 4, 4, 7, 8, 9, 10, 11, 11, 11, 14, 15, 16, 17, 1001);
        beginnings("purse 12 3;", 1000, 0, 0, 0, 0, 5, 6, 7, 8, 9, 10, 1001);
        for (String text : new String[] {"fork", "fork a", "fork a 100", "fork a 100 0", "fork a 100 0 0", "fork a 100 0 0 0",
            "motion", "motion m", "motion m 100", "motion m 100 0", "rusty", "seed 5", "law", "law hum not", "law hum 1 and"}) {
            fault(text, 1, text.length());
            fault(text + " \n", 1, text.length() + 2);
        }
        String full = times(" ", 690) + "wet 1;";
        lines(full + "    ", 1);
        fault(times(" ", 697) + "wet", 1, 700);
        fault(times(" ", 696) + "wet1", 1, 700);
        lines(times(" ", 700), 0);
        lines(times("\n", 695) + "wet1;", 1);
    }

    private static void brackets() {
        says("4", "2 a ninth '(' open");
        lines("law hum " + times("(", 8) + "1" + times(")", 8) + ";", 1);
        fault("law hum " + times("(", 9) + "1" + times(")", 9) + ";", 2, 16);
        fault("law hum " + times("(", 9), 2, 16);
        fault("law hum " + times("(", 8), 1, 16);
        lines("law hum " + times("(1)+", 20) + "1;", 1);
        lines("law hum " + times("(", 8) + "1)+(1" + times(")", 8) + ";", 1);
        fault("law hum " + times("(", 8) + "1)+((1", 2, 20);
        fault("law hum " + times("not (", 8) + "1+(1", 2, 8 + 40 + 2);
        lines("law hum " + times("(", 8) + "1" + times(")", 8) + ";law rust " + times("(", 8) + "1" + times(")", 8) + ";", 2);
        due("the innermost counts", told("fork a 500 0 0 0;law rust 1+" + times("(", 8) + "1" + times(")+1", 8) + ";").law(1, 0, 0), 10);
        fault("law hum " + times("(", 8) + "1" + times(")", 9) + ";", 1, 25);
        fault("law hum " + times("(", 8) + "1" + times(")", 7) + ";", 1, 24);
    }

    private static void knots() {
        says("4", "2 a 65th KNOT of all E");
        String sixtyThree = "law hum 1" + times("+1", 31) + ";";
        String sixtyFour = sixtyThree + "law pass 1;";
        due("63", told(sixtyThree).count(4), 63);
        due("64", told(sixtyFour).count(4), 64);
        for (String knot : new String[] {"1", "9999", "pitch", "note", "width", "loud", "beats", "damp", "day", "not 1"}) {
            fault(sixtyFour + "law rust " + knot + ";", 2, sixtyFour.length() + 9);
            fault(sixtyFour + "law rust (" + knot + ";", 2, sixtyFour.length() + 10);
        }
        int behind = sixtyThree.length() + 11;
        for (String knot : new String[] {"+", "-", "*", "/", "<", "<=", "=", "<>", ">=", ">", "and", "or"}) {
            fault(sixtyThree + "law pass 1 " + knot + " 1;", 2, behind);
            fault(sixtyThree + "law pass 1 " + knot, 2, behind);
            String sixtyTwo = "law hum not 1" + times("+1", 30) + ";law pass 1 ";
            fault(sixtyTwo + knot + " 1;", 2, sixtyTwo.length() + knot.length() + 1);
            String sixtyOne = "law hum 1" + times("+1", 30) + ";law pass 1 ";
            due("64 by " + knot, told(sixtyOne + knot + " 1;").count(4), 64);
        }
        fault("law hum 1" + times("+1", 32) + ";", 2, 9 + 64 - 1);
        fault("law hum " + times("not ", 64) + "1;", 2, 8 + 256);
        due("63 not and one", told("law hum " + times("not ", 63) + "1;").count(4), 64);
        fault("law hum " + times("not ", 65), 2, 8 + 256);
        due("none", told("table 1;").count(4), 0);
        due("brackets are none", told(sixtyThree + "law pass ((1));").count(4), 64);
    }

    private static void toldAlready() {
        says("4", "3 told already: a name of its kind (at W)");
        String seven = times("fork # 500 0 1 0;", 7);
        fault(seven + "fork a 500 0 1 0;", 3, seven.length() + 5);
        fault(seven + "fork g 500 0 1 0;", 3, seven.length() + 5);
        fault(seven + "fork g", 3, seven.length() + 5);
        lines(seven + "fork ga 500 0 1 0;", 8);
        String nine = times("motion # 500 0;", 9);
        fault(nine + "motion a 500 0;", 3, nine.length() + 7);
        fault(nine + "motion i 500 0;", 3, nine.length() + 7);
        lines(nine + "motion j 500 0;", 10);
        lines("fork a 500 0 1 0;motion a 500 0;motion b 500 0;fork b 500 0 1 0;", 4);
        lines("fork abcdef 500 0 1 0;fork abcdee 500 0 1 0;fork abcde 500 0 1 0;", 3);
        says("4", "3 told already: a FORK that is CRACKED (at W)");
        fault("fork a 500 0 1 0;crack a;crack a;", 3, 31);
        fault("fork a 500 0 1 0;crack a;crack a", 3, 31);
        says("4", "3 told already: table, purse, rusty, seed (at the word)");
        for (String line : new String[] {"table 5", "purse 5 5", "rusty 5", "seed 5"}) {
            lines(line + ";", 1);
            fault(line + ";" + line + ";", 3, line.length() + 1);
            fault(line + ";\nwet 1;" + line.substring(0, line.indexOf(' ')), 3, line.length() + 8);
        }
        lines("table 5;purse 5 5;rusty 5;seed 5;wet 5;wet 5;", 6);
        says("4", "3 told already: a law of its RULE (at RULE)");
        for (String rule : new String[] {"hum", "rust", "pass"}) {
            String line = "law " + rule + " 1;";
            lines(line, 1);
            fault(line + line, 3, line.length() + 4);
            fault(line + "law " + rule, 3, line.length() + 4);
        }
        lines("law pass 1;law rust 1;law hum 1;", 3);
    }

    private static void toldAhead() {
        says("4", "4 a FORK that isn't told ahead (at W)");
        fault("crack a;", 4, 6);
        fault("crack a", 4, 6);
        fault("crack a;fork a 500 0 0 0;", 4, 6);
        fault("motion a 500 0;crack a;", 4, 21);
        fault("fork ab 500 0 0 0;crack a;", 4, 24);
        fault("fork a 500 0 0 0;crack ab;", 4, 23);
        lines("fork a 500 0 0 0;crack a;", 2);
        ForkCouncil x = told("fork a 500 0 0 0;");
        due("told by the text ahead", read(x, "crack a;"), NONE);
        due("its fault", x.fault(0), 4);
        due("its place", x.fault(1), 6);
    }

    private static void theFirstFault() {
        says("4", "the first along the text");
        fault("wet 10;table 0;", 2, 4);
        fault("table 0;Q", 2, 6);
        fault("crack a;table 0;", 4, 6);
        fault("table 1;table 0;", 3, 8);
        fault("fork a 99 100 10 4;", 2, 7);
        fault("fork a 100 100 10 4;", 2, 11);
        fault("fork a 100 0 10 Q;", 2, 13);
        fault("fork a 500 0 0 0;fork a 99 0 0 0;", 3, 22);
        fault("law hum 10000+;", 2, 8);
        fault("law hum 1+;law hum 1;", 1, 10);
        fault("wet 1 wet 10;", 1, 6);
        says("4", "of one place the least");
        String eight = times("fork # 500 0 1 0;", 8);
        fault(eight + "table fork", 1, eight.length() + 6);
        fault("table 1;wet table", 1, 12);
        fault("law hum 1;law 10000", 1, 14);
        fault("law hum 1 10000;", 1, 10);
        fault("fork abcdefg 100 0 0 0;", 1, 5);
        fault("fork a 500 0 1 0;crack a;crack 10000", 1, 31);
        fault("law hum " + times("(", 8) + "1(", 1, 17);
        String sixtyFour = "law hum 1" + times("+1", 31) + ";law pass 1;";
        fault(sixtyFour + "law rust +", 1, sixtyFour.length() + 9);
        fault(sixtyFour + "law rust and", 1, sixtyFour.length() + 9);
        fault("law hum 1" + times("+1", 31) + ";law pass 1 1", 1, sixtyFour.length());
    }

    // ---- ==== 2

    private static void beatsAndHums() {
        says("9", "whichever is least");
        ForkCouncil x = told("fork a 100 0 9 0;fork b 999 0 9 0;fork c 300 0 9 0;wet 0;wet 9;");
        due("100 at 100", x.beats(0, 100), 0);
        due("100 at 999: twice that", x.beats(0, 999), 799);
        due("999 at 999", x.beats(1, 999), 0);
        due("999 at 100: from twice NOTE", x.beats(1, 100), 799);
        due("300 at 400 is as near as twice 300 is not", x.beats(2, 400), 100);
        due("300 at 449", x.beats(2, 449), 149);
        due("300 at 450: both", x.beats(2, 450), 150);
        due("300 at 451: twice that", x.beats(2, 451), 149);
        due("300 at 200: both", x.beats(2, 200), 100);
        due("300 at 201", x.beats(2, 201), 99);
        due("300 at 199: from twice NOTE", x.beats(2, 199), 98);
        x.go(1);
        due("9 wet off 100", x.beats(0, 100), 9);
        due("9 wet off 999", x.beats(1, 990), 0);
        says("10", "LOUD, if BEATS are WIDTH at most or it is CRACKED, else 0");
        x = told("fork a 500 7 9 0;fork b 500 0 8 0;fork c 500 99 7 0;fork d 300 0 6 0;crack d;fork e 500 0 0 0;");
        int[][] hums = {{0, 507, 9}, {0, 508, 0}, {0, 493, 9}, {0, 492, 0}, {1, 500, 8}, {1, 501, 0}, {1, 499, 0},
            {2, 599, 7}, {2, 600, 0}, {2, 401, 7}, {2, 400, 0}, {3, 999, 6}, {3, 300, 6}, {4, 500, 0}};
        for (int[] hum : hums) {
            due("hums(" + hum[0] + ", " + hum[1] + ")", x.hums(hum[0], hum[1]), hum[2]);
        }
        says("10", "0, if it is TOUCHED");
        x.touch(3, true);
        due("a cracked one", x.hums(3, 300), 0);
        x = told("fork a 500 7 9 0;law hum 5;");
        x.touch(0, true);
        due("by a law", x.hums(0, 500), 0);
        says("10", "E of hum (0 .. 99)");
        String[] laws = {"0-1", "0", "1", "98", "99", "100", "9999", "0-9999", "0-1000*1000*1000*1000", "1000*1000*1000*1000"};
        int[] dues = {0, 0, 1, 98, 99, 99, 99, 0, 0, 99};
        for (int i = 0; i < laws.length; i++) {
            due(laws[i], told("fork a 500 7 9 0;law hum " + laws[i] + ";").hums(0, 500), dues[i]);
        }
        says("10", "without, with an ERROR");
        x = told("fork a 500 7 9 0;fork b 300 0 2 0;crack b;law hum 5/(note-507)*0+4;");
        due("an ERROR at 507", x.hums(0, 507), 9);
        due("none at 508", x.hums(0, 508), 4);
        due("an ERROR of a cracked one", x.hums(1, 507), 2);
        x = told("fork a 500 7 9 0;law hum 5/(note-508);");
        due("an ERROR at 508, one too far", x.hums(0, 508), 0);
    }

    private static void carried() {
        says("11", "CARRIED, if E of pass isn't 0");
        due("0", told("law pass 0;").struck(500, 1), 0);
        due("1", told("law pass 1;").struck(500, 1), 1);
        due("-1", told("law pass 0-1;").struck(500, 1), 1);
        due("2 to the 32", told("law pass 256*256*256*256;").struck(500, 1), 1);
        says("11", "what all HUM in sum is table at least, without, with an ERROR");
        String forks = "fork a 500 0 9 0;fork b 501 0 3 0;fork c 400 0 4 0;crack c;";
        due("13 of 13", told(forks + "table 13;").struck(500, 1), 1);
        due("13 of 14", told(forks + "table 14;").struck(500, 1), 0);
        due("7 of 7 with an ERROR", told(forks + "table 7;law pass 1/0;").struck(501, 1), 1);
        due("7 of 8 with an ERROR", told(forks + "table 8;law pass 1/0;").struck(501, 1), 0);
        due("0 of 7 with E", told(forks + "table 7;law pass 0;").struck(501, 1), 0);
        says("11", "AGREED: how many of all FORKS HUM above 0");
        ForkCouncil x = told("fork a 500 0 0 0;fork b 500 0 1 0;fork c 501 0 9 0;fork d 500 0 9 0;");
        due("LOUD 0 doesn't", x.struck(500, 2), 2);
        x.touch(3, true);
        due("a TOUCHED one doesn't", x.struck(500, 2), 1);
        due("all eight", told(times("fork # 500 0 1 0;", 8)).struck(500, 2), 8);
        due("none", told("table 1;").struck(500, 2), 0);
        due("by E below 0", told("fork a 500 0 9 0;law hum 0-5;").struck(500, 2), 0);
        due("all at 99", told(times("fork # 500 0 1 0;", 8) + "law hum 99;").struck(500, 0), 792);
    }

    private static void value(String e, long want) {
        due(e, told("fork a 500 0 0 0;law rust " + e + ";").law(1, 0, 0), want);
    }

    private static void values() {
        String most = "1000*1000*1000*1000";
        says("12", "ERROR: a value above 10 to the 12");
        value(most, 1000000000000L);
        value(most + "+1", ERROR);
        value(most + "-0+0", 1000000000000L);
        value("9999*9999*9999", 999700029999L);
        value("9999*9999*9999-(3*9999+2)+300*1000*1000", 1000000000000L);
        value("9999*9999*9999-(3*9999+1)+300*1000*1000", ERROR);
        value("(9999*9999*9999-(3*9999+1)+300*1000*1000)*0", ERROR);
        value("5000*1000*1000*200*2", ERROR);
        value("5000*1000*1000*200", 1000000000000L);
        value("0-(0-" + most + ")", 1000000000000L);
        value("0-(0-" + most + ")+1", ERROR);
        says("12", "ERROR: below 0 by more than that");
        value("0-" + most, -1000000000000L);
        value("0-" + most + "-1", ERROR);
        value("(0-1000)*1000*1000*1000", -1000000000000L);
        value("(0-1001)*1000*1000*1000", ERROR);
        value("1001*1000*1000*1000", ERROR);
        says("12", "a value beyond a long");
        value(most + "*(" + most + ")", ERROR);
        value("(0-" + most + ")*(" + most + ")", ERROR);
        // 2 to the 72, 64 come back from a wrap-around as 0, 2 to the 33 times 2 to the 31 and 1 as 2 to the 33.
        value("4096*4096*4096*(4096*4096*4096)", ERROR);
        value("256*256*256*256*(256*256*256*256)", ERROR);
        value("8192*1024*1024*(2048*1024*1024+1)", ERROR);
        value("(0-8192*1024*1024)*(2048*1024*1024+1)", ERROR);
        value("(0-8192*1024*1024)*(0-2048*1024*1024-1)", ERROR);
        says("12", "a product of 0");
        value("0*0", 0);
        value("0*9999", 0);
        value("9999*0", 0);
        value("0*(" + most + ")", 0);
        says("12", "ERROR: / by 0");
        value("1/0", ERROR);
        value("0/0", ERROR);
        value("0/1", 0);
        value("5/(3-3)", ERROR);
        value("1/1", 1);
        says("12", "/ is cut towards 0");
        value("7/8", 0);
        value("8/8", 1);
        value("15/8", 1);
        value("(0-7)/8", 0);
        value("(0-8)/8", -1);
        value("(0-15)/8", -1);
        value("15/(0-8)", -1);
        value("(0-15)/(0-8)", 1);
        says("12", "comparisons, and, or, not are 1 or 0");
        String[] compared = {"<", "<=", "=", "<>", ">=", ">"};
        int[][] dues = {{1, 0, 0}, {1, 1, 0}, {0, 1, 0}, {1, 0, 1}, {0, 1, 1}, {0, 0, 1}};
        for (int i = 0; i < compared.length; i++) {
            for (int right = 1; right <= 3; right++) {
                value("2" + compared[i] + right, dues[i][3 - right]);
                value("0-2" + compared[i] + "0-" + right, dues[i][right - 1]);
            }
        }
        says("12", "what isn't 0 is as 1");
        value("not 0", 1);
        value("not 1", 0);
        value("not 2", 0);
        value("not (0-1)", 0);
        value("1+(not 0)", 2);
        value("1+(2*(3+(not 5)))", 7);
        value("5 and not 0", 1);
        value("2 and (0-1)", 1);
        value("2 and 0", 0);
        value("0 and 2", 0);
        value("0 and 0", 0);
        value("0 or (0-1)", 1);
        value("2 or 0", 1);
        value("0 or 0", 0);
        says("12", "both sides are worked out");
        for (String sign : new String[] {"and", "or", "<", "<=", "=", "<>", ">=", ">", "+", "-", "*", "/"}) {
            value("0 " + sign + " (1/0)", ERROR);
            value("1 " + sign + " (1/0)", ERROR);
            value("(1/0) " + sign + " 1", ERROR);
            value("(" + most + "+1) " + sign + " 1", ERROR);
        }
        value("not (1/0)", ERROR);
    }

    private static void days() {
        says("17", "each MOTION of this DAY is struck");
        ForkCouncil x = told("fork a 500 0 9 0;motion m 500 1;motion n 500 2;motion k 501 1;motion j 500 0;table 9;");
        x.go(1);
        due("on DAY 0 j", motion(x, 3, 2), 1);
        due("on DAY 0 not m", motion(x, 0, 2), NONE);
        x.go(1);
        due("on DAY 1 m", motion(x, 0, 2), 1);
        due("on DAY 1 m is HEARD", motion(x, 0, 3), 9);
        due("on DAY 1 k", motion(x, 2, 2), 0);
        due("on DAY 1 k is HEARD", motion(x, 2, 3), 0);
        due("on DAY 1 not n", motion(x, 1, 2), NONE);
        due("on DAY 1 n isn't HEARD", motion(x, 1, 3), NONE);
        says("17", "A MOTION that is put off is struck on its new DAY");
        x = told("fork a 500 0 9 0;motion m 500 1;table 9;");
        x.put(0, 3);
        x.go(3);
        due("not on its old one", motion(x, 0, 2), NONE);
        x.go(1);
        due("on its new one", motion(x, 0, 2), 1);
        says("17", "one that was struck isn't again");
        due("put off", bit(x.put(0, 4)), 0);
        x.go(9);
        due("CARRIED once", x.count(8), 1);
        due("HEARD once", x.count(10), 9);
        says("17", "none is TOUCHED any more");
        x = told(times("fork # 500 0 9 0;", 8));
        for (int fork = 0; fork < 8; fork++) {
            x.touch(fork, true);
        }
        due("all", x.count(11), 8);
        x.go(1);
        due("none", x.count(11), 0);
        says("17", "DAY 99 is struck, too");
        x = told("fork a 500 0 9 0;motion m 500 99;table 9;");
        x.go(99);
        due("ahead of it", motion(x, 0, 2), NONE);
        x.go(1);
        due("behind it", motion(x, 0, 2), 1);
    }

    private static void rust() {
        says("17", "E of rust (0 .. 9)");
        String[] laws = {"0-1", "0", "1", "8", "9", "10", "9999", "0-1000*1000*1000*1000", "1000*1000*1000*1000"};
        int[] dues = {500, 500, 499, 492, 491, 491, 491, 500, 491};
        for (int i = 0; i < laws.length; i++) {
            ForkCouncil x = told("fork a 500 7 9 0;rusty 5;law rust " + laws[i] + ";");
            x.go(1);
            due(laws[i], x.fork(0, 0), dues[i]);
        }
        says("17", "rusty without, with an ERROR");
        ForkCouncil x = told("fork a 500 7 9 0;rusty 5;");
        x.go(1);
        due("without", x.fork(0, 0), 495);
        x = told("fork a 500 7 9 0;rusty 5;law rust 3/day;");
        x.go(1);
        due("with an ERROR", x.fork(0, 0), 495);
        x.go(1);
        due("without an ERROR", x.fork(0, 0), 492);
        says("17", "PITCH is less, 100 at least");
        for (int pitch = 100; pitch <= 112; pitch++) {
            x = told("fork a " + pitch + " 7 9 0;rusty 9;");
            x.go(1);
            due("" + pitch, x.fork(0, 0), pitch <= 109 ? 100 : pitch - 9);
        }
        x.go(99);
        due("and stays", x.fork(0, 0), 100);
    }

    // ---- Promises 1 to 5

    private static void newObject() {
        says("1", "A TEXT without LINES; an empty TAPE");
        ForkCouncil x = new ForkCouncil();
        x.text(0);
        alike("a TEXT without LINES", all(x), all(new ForkCouncil()));
        due("no byte", new ForkCouncil().text(1), -2);
        due("none is enough", new ForkCouncil().text(0), 0);
        due("twenty are the first", new ForkCouncil().feed(0, 0, 0, 0, 0), 20);
        int[] counts = {0, 0, 0, 0, 0, 0, 100, 0, 0, 0, 0, 0, 0, 0, 0};
        for (int what = 0; what < counts.length; what++) {
            due("count(" + what + ")", new ForkCouncil().count(what), counts[what]);
        }
    }

    private static ForkCouncil fullTape() {
        ForkCouncil x = told("fork a 500 0 9 0;");
        tape(x, times(" ", 694) + "wet 5;");
        return x;
    }

    private static void feed() {
        says("2", "four of each number, the highest first");
        ForkCouncil x = new ForkCouncil();
        // Each byte of the five numbers has a place of its own in this text.
        due("feed", x.feed(0x666f726b, 0x20612035, 0x36372038, 0x39203420, 0x333b2020), 20);
        due("text", x.text(18), 1);
        int[] told = {567, 89, 4, 3};
        for (int what = 0; what < 4; what++) {
            due("fork(0, " + what + ")", x.fork(0, what), told[what]);
        }
        says("2", "how many it has");
        for (int i = 1; i <= 35; i++) {
            due("feed " + i, x.feed(LEAST, MOST, NONE, 0, 1), 20 * i);
        }
        says("2", "NONE, and none come, if it would have more than 700");
        due("feed 36", x.feed(1, 2, 3, 4, 5), NONE);
        due("feed 37", x.feed(1, 2, 3, 4, 5), NONE);
        due("700 and no more", x.text(701), -2);
        due("720 neither", x.text(720), -2);
        int six = 0x77657420;
        leaves(BoundaryTest::fullTape, "feed", y -> y.feed(six, 0x363b2020, 0x20202020, 0x20202020, 0x20202020), NONE);
        ForkCouncil y = fullTape();
        y.feed(six, 0x363b2020, 0x20202020, 0x20202020, 0x20202020);
        due("all 700", y.text(700), 1);
        due("the last of them", y.wet(0), 5);
        due("empty again", y.feed(six, 0x363b2020, 0x20202020, 0x20202020, 0x20202020), 20);
        due("read", y.text(20), 1);
        due("from the first one on", y.wet(0), 6);
        due("no more", y.count(3), 1);
        due("a full one with a FAULT", read(y, times(" ", 699) + "Q"), NONE);
        due("its place", y.fault(1), 699);
        due("empty again", y.feed(0, 0, 0, 0, 0), 20);
    }

    private static void text() {
        says("3", "-2, and the TAPE stays: there are not so many, n is below 0");
        for (int n : new int[] {21, 22, 700, 701, MOST, NONE, -2, -20, LEAST}) {
            leaves("text(" + n + ") of twenty bytes", x -> x.text(n), -2);
        }
        says("3", "The TAPE's first n bytes");
        due("all twenty", busy().text(20), 3);
        due("eighteen", busy().text(18), 3);
        due("seventeen: ';' must come", busy().text(17), NONE);
        due("twelve", busy().text(12), 2);
        due("six", busy().text(6), 1);
        due("five: ';' must come", busy().text(5), NONE);
        due("none", busy().text(0), 0);
        says("3", "it is empty then");
        for (int n : new int[] {0, 5, 6, 20}) {
            ForkCouncil x = busy();
            x.text(n);
            due("behind text(" + n + ")", x.text(1), -2);
            due("fed behind text(" + n + ")", x.feed(0, 0, 0, 0, 0), 20);
        }
        says("3", "how many LINES");
        due("0", told("").count(0), 0);
        lines("", 0);
        lines("wet 1;", 1);
        lines(FULL, 30);
    }

    private static void textWithFault() {
        says("3", "NONE with a FAULT, all stays");
        String head = "fork z 100 9 9 3;crack z;motion y 100 0;table 5;wet 9;purse 1 1;rusty 9;seed 9;law hum 5;law rust 5;law pass 5;";
        String[] tails = {"wet 10;", "Q", "crack z;", "crack x;", "wet 1"};
        for (String tail : tails) {
            ForkCouncil x = busy();
            x.text(0 - 1);
            String before = look(x);
            x.text(5);
            alike("the first five", look(x), before);
            due(head + tail, read(x, head + tail), NONE);
            alike(head + tail, look(x), before);
        }
        ForkCouncil x = busy();
        x.text(17);
        ForkCouncil y = busy();
        y.text(17);
        due("a long one", read(x, head + "wet 10;"), NONE);
        due("one of a fault alone", read(y, times(" ", head.length()) + "wet 10;"), NONE);
        alike("what can be undone, the IMAGE", all(x), all(y));
        y = busy();
        y.text(17);
        due("the IMAGE stays", y.back(), 1);
        y = busy();
        y.text(17);
        due("what can be undone stays", y.undo(), 3);
        due("a new one with a FAULT", read(new ForkCouncil(), "Q"), NONE);
        ForkCouncil z = new ForkCouncil();
        read(z, head + "Q");
        read(z, times(" ", head.length()) + "Q");
        ForkCouncil none = new ForkCouncil();
        read(none, times(" ", head.length()) + "Q");
        alike("a new one stays new", all(z), all(none));
    }

    private static void textAnew() {
        says("3", "DAY 0, none TOUCHED, no MOTION struck, no MINUTES, all KNOWN, no IMAGE, nothing to undo then");
        String[] texts = {"", "fork b 300 1 1 1;motion m 300 0;", "wet 7;",
            "fork a 500 3 9 0;fork b 400 5 2 1;fork c 990 0 4 3;crack c;motion m 500 0;motion n 400 2;motion k 700 5;motion j 500 3;"
            + "table 11;wet 0;wet 2;wet 1;purse 60 4;rusty 1;law pass loud>=9;"};
        for (String text : texts) {
            ForkCouncil x = busy();
            x.text(0);
            read(x, text);
            ForkCouncil y = new ForkCouncil();
            read(y, text);
            alike(text, all(x), all(y));
        }
        ForkCouncil x = busy();
        x.text(0);
        due("the DAY", x.count(5), 0);
        due("no IMAGE", x.back(), NONE);
        due("nothing to undo", x.undo(), NONE);
        due("no MINUTES", x.count(12), 0);
        x = busy();
        x.text(0);
        read(x, "motion m 500 0;");
        x.minute(0, true);
        due("all KNOWN, those to come, too", x.count(13), 1);
    }

    /** Whatever texts were told ahead, with a FAULT or without, the next one is as in a new object. */
    private static void textsInARow() {
        says("3", "The TAPE's first n bytes are the TEXT, whatever was told ahead");
        String rest = "crack h;purse 7 7;rusty 9;seed 9;";
        String faulty = FULL + "law hum 1;";
        String[] texts = {"", "fork h 500 0 9 0;motion m 500 1;", "law pass 1;fork h 300 1 9 0;", FULL.replace("table 9;", "table 9;" + rest)};
        int[] lines = {0, 2, 2, 34};
        for (int which = 0; which < texts.length; which++) {
            for (int ahead = 0; ahead < 5; ahead++) {
                ForkCouncil x = new ForkCouncil();
                for (int i = 0; i < ahead; i++) {
                    read(x, i == 3 ? faulty : texts[3]);
                    x.go(1);
                }
                String name = ahead + " texts ahead of " + texts[which];
                due(name, read(x, texts[which]), lines[which]);
                alike(name, shown(x), shown(told(texts[which])));
            }
        }
    }

    /** Less than all of it: eight forks and ten motions would be too many calls for one object. */
    private static String shown(ForkCouncil x) {
        StringBuilder seen = new StringBuilder();
        for (int what = 0; what <= 14; what++) {
            seen.append(x.count(what)).append(' ');
        }
        long[] asked = {x.fault(0), x.fault(1), x.named(0, letters("h")), x.named(1, letters("m")), x.wet(0), x.wet(7), x.law(0, 0, 500),
            x.law(1, 0, 500), x.law(2, 0, 500), x.hums(0, 500), x.struck(500, 0), x.struck(500, 1), x.file(0, 1), x.count(7), x.ahead(2, 3, 0),
            x.ahead(2, 0, 0), x.widths(0), x.fork(0, 1), x.fork(0, 4), x.fork(7, 4), motion(x, 0, 1), motion(x, 9, 1), x.undo(), x.undo(), x.back()};
        for (long one : asked) {
            seen.append(one).append(' ');
        }
        return seen.toString();
    }

    private static void faults() {
        says("4", "its FAULT (0), its place (NONE without)");
        due("of a new one, 0", new ForkCouncil().fault(0), 0);
        due("of a new one, 1", new ForkCouncil().fault(1), NONE);
        says("4", "NONE for another what");
        for (int what : new int[] {NONE, 2, 3, LEAST, MOST}) {
            leaves("fault(" + what + ")", x -> x.fault(what), NONE);
        }
        due("0", busy().fault(0), 2);
        due("1", busy().fault(1), 10);
        says("4", "Of the latest text() that was not -2");
        ForkCouncil x = busy();
        x.text(21);
        due("0 behind a -2", x.fault(0), 2);
        due("1 behind a -2", x.fault(1), 10);
        x.text(17);
        due("0 of the next one", x.fault(0), 1);
        due("1 of the next one", x.fault(1), 17);
        x.text(1);
        due("0 behind a -2 of an empty one", x.fault(0), 1);
        x.text(0);
        due("0 without", x.fault(0), 0);
        due("1 without", x.fault(1), NONE);
        x.text(NONE);
        due("0 without behind a -2", x.fault(0), 0);
        fault("Q", 1, 0);
    }

    private static void named() {
        says("5", "5 bits each (a is 1; the first one highest of six, 0 behind the last one)");
        ForkCouncil x = told("fork a 500 0 0 0;fork z 500 0 0 0;fork aaaaaa 500 0 0 0;fork zzzzzz 500 0 0 0;fork ab 500 0 0 0;"
            + "motion z 500 0;motion a 500 0;motion abcdef 500 0;");
        due("a", x.named(0, 1 << 25), 0);
        due("z", x.named(0, 26 << 25), 1);
        due("aaaaaa", x.named(0, 1 << 25 | 1 << 20 | 1 << 15 | 1 << 10 | 1 << 5 | 1), 2);
        due("zzzzzz", x.named(0, 26 << 25 | 26 << 20 | 26 << 15 | 26 << 10 | 26 << 5 | 26), 3);
        due("ab", x.named(0, 1 << 25 | 2 << 20), 4);
        due("motion z", x.named(1, 26 << 25), 0);
        due("motion a", x.named(1, 1 << 25), 1);
        due("motion abcdef", x.named(1, letters("abcdef")), 2);
        says("5", "NONE: there is none such");
        for (int letters : new int[] {0, 1, NONE, LEAST, MOST, letters("b"), letters("aa"), letters("abc"), letters("aaaaab"),
            (1 << 25) + 1, (1 << 25) - 1, 1 << 25 | 1 << 30, 1 << 25 | 1 << 31, 27 << 25, 1 << 20, 26, 2}) {
            due("named(0, " + letters + ")", x.named(0, letters), NONE);
        }
        for (int what : new int[] {NONE, 2, LEAST, MOST}) {
            due("named(" + what + ", a)", x.named(what, 1 << 25), NONE);
        }
        due("a motion's name of a fork", x.named(0, letters("abcdef")), NONE);
        due("a fork's name of a motion", x.named(1, letters("ab")), NONE);
        x = told(times("fork # 500 0 0 0;", 8) + times("motion # 500 0;", 10));
        due("the eighth FORK", x.named(0, letters("h")), 7);
        due("no ninth", x.named(0, letters("i")), NONE);
        due("the tenth MOTION", x.named(1, letters("j")), 9);
        due("no eleventh", x.named(1, letters("k")), NONE);
        read(x, "fork a 500 0 0 0;");
        due("one of the text ahead", x.named(0, letters("h")), NONE);
        due("a MOTION of the text ahead", x.named(1, letters("a")), NONE);
        due("of a new object", new ForkCouncil().named(0, 0), NONE);
        due("of a new object", new ForkCouncil().named(1, 0), NONE);
    }

    // ---- Promises 6 to 12

    private static void motions() {
        says("6", "IndexOutOfBoundsException: no such MOTION");
        for (int motion : new int[] {NONE, 4, 5, 10, LEAST, MOST}) {
            leaves("motion(" + motion + ", 0)", x -> motion(x, motion, 0), OUT_OF_BOUNDS);
            leaves("motion(" + motion + ", 4)", x -> motion(x, motion, 4), OUT_OF_BOUNDS);
        }
        says("6", "NoSuchElementException: no such what");
        for (int what : new int[] {NONE, 4, 5, LEAST, MOST}) {
            leaves("motion(0, " + what + ")", x -> motion(x, 0, what), NO_ELEMENT);
            leaves("motion(3, " + what + ")", x -> motion(x, 3, what), NO_ELEMENT);
        }
        says("6", "Of a MOTION now");
        int[][] dues = {{500, 0, 1, 9 + 4}, {400, 2, NONE, NONE}, {700, 9, NONE, NONE}, {500, 3, NONE, NONE}};
        ForkCouncil x = busy();
        for (int motion = 0; motion < 4; motion++) {
            for (int what = 0; what < 4; what++) {
                due("motion(" + motion + ", " + what + ")", motion(x, motion, what), dues[motion][what]);
            }
        }
        says("6", "full and empty");
        x = told(times("motion # 500 0;", 10));
        due("the tenth", motion(x, 9, 0), 500);
        due("no eleventh", motion(x, 10, 0), OUT_OF_BOUNDS);
        due("none at all", motion(new ForkCouncil(), 0, 0), OUT_OF_BOUNDS);
        due("none at all, no such what", motion(new ForkCouncil(), 0, 4), OUT_OF_BOUNDS);
        x.text(0);
        due("none any more", motion(x, 0, 0), OUT_OF_BOUNDS);
    }

    private static void forks() {
        says("7", "NONE: no such ones");
        for (int fork : new int[] {NONE, 3, 4, 8, LEAST, MOST}) {
            for (int what = 0; what <= 5; what++) {
                due("fork(" + fork + ", " + what + ")", busy().fork(fork, what), NONE);
            }
            leaves("fork(" + fork + ", 0)", x -> x.fork(fork, 0), NONE);
        }
        for (int what : new int[] {NONE, 6, 7, LEAST, MOST}) {
            leaves("fork(0, " + what + ")", x -> x.fork(0, what), NONE);
            leaves("fork(2, " + what + ")", x -> x.fork(2, what), NONE);
        }
        int[][] dues = {{498, 3, 9, 0, 0, 1}, {401, 5, 2, 1, 0, 0}, {988, 0, 4, 3, 1, 0}};
        for (int fork = 0; fork < 3; fork++) {
            for (int what = 0; what <= 5; what++) {
                due("fork(" + fork + ", " + what + ")", busy().fork(fork, what), dues[fork][what]);
            }
        }
        says("7", "full and empty");
        ForkCouncil x = told(times("fork # 500 0 0 0;", 7) + "fork h 501 1 2 3;crack h;");
        due("the eighth", x.fork(7, 0), 501);
        due("it is CRACKED", x.fork(7, 4), 1);
        due("it isn't TOUCHED", x.fork(7, 5), 0);
        x.touch(7, true);
        due("it is TOUCHED", x.fork(7, 5), 1);
        due("the seventh isn't", x.fork(6, 5), 0);
        due("no ninth", x.fork(8, 0), NONE);
        due("none at all", new ForkCouncil().fork(0, 0), NONE);
    }

    private static void wet() {
        says("8", "WET of a DAY 0 .. 9999; NONE: no such one");
        for (int day : new int[] {NONE, 10000, 10001, LEAST, MOST}) {
            leaves("wet(" + day + ")", x -> x.wet(day), NONE);
        }
        due("wet(0)", told("wet 3;wet 4;").wet(0), 3);
        due("wet(9999)", told("wet 3;wet 4;").wet(9999), 4);
        due("wet(0) of none", new ForkCouncil().wet(0), 0);
        due("wet(9999) of none", new ForkCouncil().wet(9999), 0);
        due("wet(10000) of none", new ForkCouncil().wet(10000), NONE);
    }

    interface Noted {
        long on(ForkCouncil x, int number);
    }

    private static final int[] NO_NOTES = {99, 1000, 1001, 0, NONE, -100, -999, LEAST, MOST};
    private static final int[] NO_FORKS = {NONE, 3, 4, 7, 8, LEAST, MOST};
    private static final String EDGES = "fork a 100 0 9 0;fork b 999 0 8 1;table 8;";

    private static void noted(String promise, Noted call, long refusal, long at100, long at999) {
        says(promise, "a NOTE 100 .. 999; no such ones");
        for (int note : NO_NOTES) {
            leaves("at " + note, x -> call.on(x, note), refusal);
        }
        due("at 100", call.on(told(EDGES), 100), at100);
        due("at 999", call.on(told(EDGES), 999), at999);
    }

    private static void forked(String promise, Noted call, long refusal, long ofTheEighth) {
        says(promise, "a FORK; no such ones");
        for (int fork : NO_FORKS) {
            leaves("of " + fork, x -> call.on(x, fork), refusal);
        }
        due("of 0 of none", call.on(new ForkCouncil(), 0), refusal);
        String eight = times("fork # 500 0 1 0;", 7) + "fork h 600 3 7 0;table 9;";
        due("of the eighth", call.on(told(eight), 7), ofTheEighth);
        due("of the ninth", call.on(told(eight), 8), refusal);
    }

    private static void notes() {
        noted("9", (x, note) -> x.beats(note < 500 ? 0 : 1, note), NONE, 0, 0);
        noted("10", (x, note) -> x.hums(note < 500 ? 0 : 1, note), NONE, 9, 8);
        noted("11", (x, note) -> x.struck(note, 0), NONE, 9, 8);
        noted("11", (x, note) -> x.struck(note, 1), NONE, 1, 1);
        noted("11", (x, note) -> x.struck(note, 2), NONE, 1, 1);
        noted("21", (x, note) -> x.bribe(note, 4), LEAST, 0, 0);
        noted("21", (x, note) -> x.bribe(note, 0), LEAST, 0, 0);
        noted("22", (x, note) -> x.swing(note < 500 ? 0 : 1, note), NONE, 2, 2);
        noted("23", (x, note) -> x.censure(note), NONE, 1, 2);
        noted("24", (x, note) -> x.party(note < 500 ? 0 : 1, note), NONE, 9, 8);
        noted("25", (x, note) -> x.rests(0, 1, note), NONE, 1, 1);
        noted("26", (x, note) -> x.rest(0, 1, note, 0), NONE, 22, 21);
        noted("29", (x, note) -> x.room(0, note), NONE, 0, 899);
        noted("29", (x, note) -> x.room(1, note), NONE, 799, 0);
        forked("9", (x, fork) -> x.beats(fork, 603), NONE, 3);
        forked("10", (x, fork) -> x.hums(fork, 603), NONE, 7);
        forked("22", (x, fork) -> x.swing(fork, 603), NONE, 0);
        forked("25", (x, fork) -> x.rests(fork, 0, 603), NONE, 1);
        forked("25", (x, fork) -> x.rests(0, fork, 603), NONE, 1);
        forked("26", (x, fork) -> x.rest(fork, 0, 603, 0), NONE, 22);
        forked("26", (x, fork) -> x.rest(0, fork, 603, 0), NONE, 22);
        forked("29", (x, fork) -> x.room(fork, 605), NONE, 2);
        forked("33", (x, fork) -> x.widths(fork), NONE, 1023);
        forked("12", (x, fork) -> x.law(0, fork, 603), ERROR, ERROR);
        forked("12", (x, fork) -> x.law(1, fork, 603), ERROR, ERROR);
        forked("14", (x, fork) -> x.file(fork, 1), NONE, 601);
        forked("18", (x, fork) -> x.ahead(1, 3, fork), NONE, 600);
        forked("35", (x, fork) -> x.tried(2, fork, 1), NONE, 0);
        forked("13", (x, fork) -> bit(x.touch(fork, true)), 0, 1);
        forked("13", (x, fork) -> bit(x.touch(fork, false)), 0, 0);
        says("11", "what 0, 1, 2");
        for (int what : new int[] {NONE, 3, 4, LEAST, MOST}) {
            leaves("struck(500, " + what + ")", x -> x.struck(500, what), NONE);
        }
    }

    private static void law() {
        String laws = "fork a 500 7 9 0;fork b 400 0 1 0;law hum note;law rust pitch;law pass note+loud;";
        ForkCouncil x = told(laws);
        says("12", "what 0 hum of a FORK at a NOTE");
        due("at 100", x.law(0, 1, 100), 100);
        due("at 999", x.law(0, 1, 999), 999);
        says("12", "1 rust of a FORK; the NOTE isn't of rust");
        for (int note : NO_NOTES) {
            due("at " + note, x.law(1, 1, note), 400);
            due("hum at " + note, x.law(0, 1, note), ERROR);
            due("pass at " + note, x.law(2, 1, note), ERROR);
        }
        says("12", "2 pass of a NOTE: the FORK isn't looked at");
        for (int fork : new int[] {NONE, 2, 8, LEAST, MOST}) {
            due("of " + fork, x.law(2, fork, 100), 100 + 2 * 99);
            due("hum of " + fork, x.law(0, fork, 100), ERROR);
            due("rust of " + fork, x.law(1, fork, 100), ERROR);
        }
        due("without FORKS", told("law pass note+loud;").law(2, 0, 999), 999);
        says("12", "Long.MIN_VALUE: an ERROR, no such law, no such ones");
        for (int what : new int[] {NONE, 3, 4, LEAST, MOST}) {
            due("law(" + what + ", 0, 500)", x.law(what, 0, 500), ERROR);
            leaves("law(" + what + ", 0, 500)", y -> y.law(what, 0, 500), ERROR);
        }
        for (int what = 0; what < 3; what++) {
            due("no law " + what, told("fork a 500 7 9 0;").law(what, 0, 500), ERROR);
            due("only 0, asked for " + what, told("fork a 500 7 9 0;law hum 5;").law(what, 0, 500), what == 0 ? 5 : ERROR);
            due("only 1, asked for " + what, told("fork a 500 7 9 0;law rust 5;").law(what, 0, 500), what == 1 ? 5 : ERROR);
            due("only 2, asked for " + what, told("fork a 500 7 9 0;law pass 5;").law(what, 0, 500), what == 2 ? 5 : ERROR);
        }
        lawNames();
    }

    private static void lawNames() {
        String forks = "fork a 507 8 9 0;fork b 500 0 5 0;wet 7;wet 3;";
        String[] names = {"pitch", "note", "width", "loud", "beats", "damp", "day"};
        long[] ofHum = {504, 501, 8, 9, 3, 3, 1};
        long[] ofRust = {500, 0, 8, 9, 0, 7, 0};
        long[] ofPass = {0, 501, 0, 9, 0, 3, 1};
        for (int i = 0; i < names.length; i++) {
            says("12", "NAMES of hum");
            ForkCouncil x = told(forks + "law hum " + names[i] + ";");
            x.go(1);
            due(names[i], x.law(0, 0, 501), ofHum[i]);
            says("12", "NAMES of pass: pitch, width, beats 0, loud what all HUM");
            x = told(forks + "law pass " + names[i] + ";");
            x.go(1);
            due(names[i], x.law(2, 0, 501), ofPass[i]);
            says("12", "NAMES of rust: note, beats 0");
            x = told(forks + "law rust " + names[i] + ";");
            due(names[i], x.law(1, 0, 501), ofRust[i]);
        }
        says("12", "damp: WET of the DAY, 0 .. 9");
        ForkCouncil x = told("wet 0;wet 9;law pass damp;");
        due("0", x.law(2, 0, 500), 0);
        x.go(1);
        due("9", x.law(2, 0, 500), 9);
    }

    // ---- Promises 13 to 17

    private static void touch() {
        says("13", "false: no such one, it is so");
        leaves("a TOUCHED one again", x -> bit(x.touch(0, true)), 0);
        leaves("one that isn't, no more", x -> bit(x.touch(1, false)), 0);
        leaves("the fourth", x -> bit(x.touch(3, true)), 0);
        says("13", "A FORK is TOUCHED today, or no more: true");
        ForkCouncil x = busy();
        due("no more", bit(x.touch(0, false)), 1);
        due("it isn't", x.fork(0, 5), 0);
        due("again", bit(x.touch(0, true)), 1);
        due("it is", x.fork(0, 5), 1);
        due("the last one", bit(x.touch(2, true)), 1);
        due("both", x.count(11), 2);
        due("three can be undone more", x.count(14), 7);
        x = told(times("fork # 500 0 1 0;", 8));
        for (int fork = 0; fork < 8; fork++) {
            due("touch(" + fork + ")", bit(x.touch(fork, true)), 1);
            due("that many", x.count(11), fork + 1);
            due("the others hum", x.struck(500, 0), 7 - fork);
        }
    }

    private static ForkCouncil poor() {
        ForkCouncil x = told("fork a 500 0 0 0;fork b 999 0 0 0;fork c 100 0 0 0;purse 20 7;");
        x.earn(1);
        return x;
    }

    private static void file() {
        says("14", "A FORK is filed by -99 .. 99 (not 0)");
        for (int by : new int[] {0, 100, -100, 101, -101, LEAST, LEAST + 1, MOST}) {
            leaves("file(0, " + by + ")", x -> x.file(0, by), NONE);
        }
        String rich = "fork a 500 0 0 0;purse 999 1;";
        due("by 99", told(rich).file(0, 99), 599);
        due("by -99", told(rich).file(0, -99), 401);
        due("by 1", told(rich).file(0, 1), 501);
        due("by -1", told(rich).file(0, -1), 499);
        says("14", "NONE: PITCH wouldn't be 100 .. 999");
        String edges = "fork a 101 0 0 0;fork b 998 0 0 0;fork c 150 0 0 0;fork d 950 0 0 0;purse 999 1;";
        Setup edge = () -> told(edges);
        due("100", edge.make().file(0, -1), 100);
        leaves(edge, "99", x -> x.file(0, -2), NONE);
        due("999", edge.make().file(1, 1), 999);
        leaves(edge, "1000", x -> x.file(1, 2), NONE);
        due("150 by -50", edge.make().file(2, -50), 100);
        leaves(edge, "150 by -51", x -> x.file(2, -51), NONE);
        leaves(edge, "150 by -99", x -> x.file(2, -99), NONE);
        due("950 by 49", edge.make().file(3, 49), 999);
        leaves(edge, "950 by 50", x -> x.file(3, 50), NONE);
        leaves(BoundaryTest::poor, "999 by 1", x -> x.file(1, 1), NONE);
        leaves(BoundaryTest::poor, "100 by -1", x -> x.file(2, -1), NONE);
        says("14", "-2: the PURSE hasn't so much");
        leaves(BoundaryTest::poor, "28 of 21", x -> x.file(0, 4), -2);
        leaves(BoundaryTest::poor, "28 of 21, down", x -> x.file(0, -4), -2);
        leaves(BoundaryTest::poor, "693 of 21", x -> x.file(0, 99), -2);
        says("14", "price by each one is PAID out of the PURSE: PITCH");
        for (int by : new int[] {3, -3}) {
            ForkCouncil x = poor();
            due("21 of 21", x.file(0, by), 500 + by);
            due("the PURSE", x.count(6), 0);
            due("PAID", x.count(7), 21);
            due("PITCH", x.fork(0, 0), 500 + by);
            due("7 of 0", x.file(0, -1), -2);
            due("can be undone", x.count(14), 2);
        }
        ForkCouncil x = poor();
        x.file(0, 1);
        x.file(0, -2);
        due("PAID in sum", x.count(7), 21);
        x = told("fork a 500 0 0 0;purse 0 0;");
        due("for nothing of nothing", x.file(0, 99), 599);
        due("nothing PAID", x.count(7), 0);
    }

    private static void put() {
        Setup third = () -> {
            ForkCouncil x = told("motion m 500 0;motion n 500 3;motion k 500 5;motion j 500 99;");
            x.go(3);
            return x;
        };
        says("15", "a DAY from today on, 9999 at most");
        for (int day : new int[] {2, 0, NONE, LEAST, 10000, 10001, MOST}) {
            leaves(third, "put(2, " + day + ") on DAY 3", x -> bit(x.put(2, day)), 0);
        }
        for (int day : new int[] {3, 4, 6, 9998, 9999}) {
            ForkCouncil x = third.make();
            due("put(2, " + day + ")", bit(x.put(2, day)), 1);
            due("the DAY", motion(x, 2, 1), day);
            due("can be undone", x.count(14), 1);
        }
        says("15", "false: no such ones, struck, it is on that DAY");
        for (int motion : new int[] {NONE, 4, 10, LEAST, MOST}) {
            leaves(third, "put(" + motion + ", 7)", x -> bit(x.put(motion, 7)), 0);
        }
        leaves(third, "struck", x -> bit(x.put(0, 7)), 0);
        leaves(third, "struck, on its DAY", x -> bit(x.put(0, 0)), 0);
        leaves(third, "on that DAY", x -> bit(x.put(2, 5)), 0);
        leaves(third, "on that DAY, today", x -> bit(x.put(1, 3)), 0);
        leaves(third, "on that DAY, the last one", x -> bit(x.put(3, 99)), 0);
        due("none at all", bit(new ForkCouncil().put(0, 7)), 0);
        ForkCouncil x = third.make();
        x.put(2, 9999);
        due("on 9999 already", bit(x.put(2, 9999)), 0);
        due("and back", bit(x.put(2, 5)), 1);
        due("today is struck today", bit(x.put(2, 3)), 1);
        x.go(1);
        due("struck", motion(x, 2, 2), 0);
        x = told(times("motion # 500 0;", 10));
        due("the tenth", bit(x.put(9, 1)), 1);
        due("no eleventh", bit(x.put(10, 1)), 0);
    }

    /** Ninety calls that bring 999 up to 9909. */
    private static ForkCouncil rich() {
        ForkCouncil x = told("fork a 500 0 0 0;purse 999 99;");
        for (int i = 0; i < 90; i++) {
            x.earn(99);
        }
        return x;
    }

    private static void earn() {
        says("16", "So many PENCE 1 .. 99 more");
        for (int pence : new int[] {0, 100, 101, NONE, -99, LEAST, MOST}) {
            leaves("earn(" + pence + ")", x -> x.earn(pence), NONE);
        }
        due("1", busy().earn(1), 54);
        due("99", busy().earn(99), 152);
        due("1 of 0", told("purse 0 1;").earn(1), 1);
        says("16", "NONE: there would be more than 9999");
        due("9909", rich().count(6), 9909);
        leaves(BoundaryTest::rich, "10000", x -> x.earn(91), NONE);
        leaves(BoundaryTest::rich, "10008", x -> x.earn(99), NONE);
        ForkCouncil x = rich();
        due("9999", x.earn(90), 9999);
        due("one more", x.earn(1), NONE);
        due("it stays", x.count(6), 9999);
        due("99 times 99 out of it", x.file(0, 99), 599);
        due("the rest", x.count(6), 9999 - 9801);
        due("undone", x.undo(), 19);
        due("9999 again", x.count(6), 9999);
        says("16", "how many there are");
        x = busy();
        x.earn(7);
        due("the PURSE", x.count(6), 60);
        due("PAID stays", x.count(7), 12);
        due("can be undone", x.count(14), 5);
    }

    private static ForkCouncil late() {
        ForkCouncil x = told("fork a 999 0 9 0;motion m 500 0;motion n 999 99;motion k 500 50;wet 0;wet 0;wet 0;wet 0;wet 0;wet 0;wet 0;wet 5;");
        x.put(1, 9998);
        x.put(2, 9999);
        for (int i = 0; i < 99; i++) {
            x.go(99);
        }
        x.go(97);
        x.earn(1);
        return x;
    }

    private static void go() {
        says("17", "So many DAYS (0 .. 99) go by; NONE, and none does: no such number");
        for (int n : new int[] {NONE, -2, -99, 100, 101, LEAST, MOST}) {
            leaves("go(" + n + ")", x -> x.go(n), NONE);
            leaves(BoundaryTest::late, "go(" + n + ") on 9898", x -> x.go(n), NONE);
        }
        due("0", busy().go(0), 2);
        due("1", busy().go(1), 3);
        due("99", busy().go(99), 101);
        leaves("go(0)", x -> x.go(0), 2);
        says("17", "NONE, and none does: behind 9900");
        due("9898", late().count(5), 9898);
        for (int n : new int[] {3, 4, 98, 99}) {
            leaves(BoundaryTest::late, "go(" + n + ") on 9898", x -> x.go(n), NONE);
        }
        due("9899", late().go(1), 9899);
        due("9900", late().go(2), 9900);
        ForkCouncil x = late();
        x.go(2);
        due("9900 stays", x.go(0), 9900);
        due("9901", x.go(1), NONE);
        due("9999", x.go(99), NONE);
        due("it is", x.count(5), 9900);
        due("WET of 9900, 5 on 9903", x.wet(9903), 5);
        due("the PITCH", x.fork(0, 0), 999);
        says("17", "which one it is");
        x = told("fork a 500 0 9 0;motion m 500 0;motion n 500 98;motion k 500 99;table 9;rusty 1;");
        due("99 DAYS", x.go(99), 99);
        due("DAY 0 was", motion(x, 0, 2), 1);
        due("DAY 98 was", motion(x, 1, 2), 0);
        due("DAY 99 wasn't", motion(x, 2, 2), NONE);
        due("rust of 99 DAYS", x.fork(0, 0), 401);
    }

    // ---- Promises 18 to 24

    private static void ahead() {
        says("18", "AHEAD (n 0 .. 99)");
        for (int n : new int[] {NONE, -99, 100, LEAST, MOST}) {
            for (int what = 0; what <= 3; what++) {
                due("ahead(" + n + ", " + what + ", 0)", busy().ahead(n, what, 0), NONE);
            }
            leaves("ahead(" + n + ", 0, 0)", x -> x.ahead(n, 0, 0), NONE);
        }
        says("18", "what 0 CARRIED, 1 FALLEN, 2 HEARD, 3 PITCH of a FORK");
        for (int what : new int[] {NONE, 4, 5, LEAST, MOST}) {
            leaves("ahead(1, " + what + ", 0)", x -> x.ahead(1, what, 0), NONE);
        }
        // On day 2 b is 400 at 400 (less 1 wet): 2 of it and 4 of c; on day 3 a is 497, 4 of c and 9.
        int[][] dues = {{0, 0, 0, 498}, {0, 1, 6, 497}, {1, 1, 19, 496}};
        for (int n = 0; n <= 2; n++) {
            for (int what = 0; what <= 3; what++) {
                int days = n;
                int which = what;
                leaves("ahead(" + n + ", " + what + ", 0)", x -> x.ahead(days, which, 0), dues[n][what]);
            }
        }
        due("99 DAYS", busy().ahead(99, 3, 2), 988 - 99);
        says("18", "else that isn't looked at");
        for (int fork : NO_FORKS) {
            due("CARRIED, FORK " + fork, busy().ahead(2, 0, fork), 1);
            due("FALLEN, FORK " + fork, busy().ahead(2, 1, fork), 1);
            due("HEARD, FORK " + fork, busy().ahead(2, 2, fork), 19);
            due("PITCH, FORK " + fork, busy().ahead(2, 3, fork), NONE);
        }
        due("without FORKS", new ForkCouncil().ahead(99, 2, 0), 0);
        says("18", "behind 9900, too");
        ForkCouncil x = late();
        x.go(2);
        due("99 DAYS: n, not k", x.ahead(99, 1, 0), 1);
        due("98 DAYS: none", x.ahead(98, 1, 0), 0);
        due("HEARD", x.ahead(99, 2, 0), 9);
        due("CARRIED", x.ahead(99, 0, 0), 0);
    }

    private static void best() {
        says("19", "NONE for another what");
        for (int what : new int[] {NONE, 2, 3, LEAST, MOST}) {
            leaves("best(" + what + ")", x -> x.best(what), NONE);
        }
        says("19", "100 .. 999 at which all HUM most now");
        due("100", told("fork a 100 0 9 0;").best(0), 100);
        due("999", told("fork a 999 0 9 0;law hum note=999;").best(0), 999);
        due("998", told("fork a 999 0 9 0;law hum note=998;").best(0), 998);
        due("101", told("fork a 999 0 9 0;law hum note=101;").best(0), 101);
        due("below 100 there is none", told("fork a 100 9 9 0;law hum 99-note;").best(1), 0);
        due("above 999 there is none", told("fork a 100 9 9 0;law hum note-998;").best(1), 1);
        says("19", "the first of several");
        due("all alike", told("fork a 100 0 9 0;law hum 5;").best(0), 100);
        due("how loud", told("fork a 100 0 9 0;law hum 5;").best(1), 5);
        due("500 .. 502", told("fork a 500 0 9 0;law hum note>=500 and note<=502;").best(0), 500);
        due("none hums", told("fork a 500 0 0 0;").best(0), 100);
        due("none hums, how loud", told("fork a 500 0 0 0;").best(1), 0);
        due("no FORKS", new ForkCouncil().best(0), 100);
        due("no FORKS, how loud", new ForkCouncil().best(1), 0);
        due("all at 99", told(times("fork # 500 0 0 0;", 8) + "law hum 99;").best(1), 792);
        // b is 400 by the wet and 5 wide: twice 198 is the first note near to it; c is cracked.
        leaves("best(0)", x -> x.best(0), 198);
        leaves("best(1)", x -> x.best(1), 6);
    }

    private static void open() {
        says("20", "how many NOTES 100 .. 999 would be CARRIED now");
        due("none", told("law pass 0;").open(), 0);
        due("all", told("law pass 1;").open(), 900);
        due("100 alone", told("law pass note<=100;").open(), 1);
        due("999 alone", told("law pass note>=999;").open(), 1);
        due("none below", told("law pass note<100;").open(), 0);
        due("none above", told("law pass note>999;").open(), 0);
        due("a new object", new ForkCouncil().open(), 0);
        leaves("open()", x -> x.open(), 0);
    }

    private static void bribe() {
        says("21", "what 0 .. 4; Integer.MIN_VALUE: no such ones");
        for (int what : new int[] {NONE, 5, 6, LEAST, MOST}) {
            leaves("bribe(500, " + what + ")", x -> x.bribe(500, what), LEAST);
        }
        says("21", "-9: not so many");
        for (int forks = 0; forks <= 6; forks++) {
            ForkCouncil x = told(times("fork # 500 0 9 0;", forks) + "table 1;law pass loud>=0;");
            ForkCouncil y = told(times("fork # 500 0 9 0;", forks) + "law pass 0;");
            for (int what = 0; what < 4; what++) {
                due(forks + " forks, bribe(500, " + what + ")", x.bribe(500, what), what < forks ? 0 : -9);
                due(forks + " forks, by none, bribe(500, " + what + ")", y.bribe(500, what), what < forks ? -8 : -9);
            }
            due(forks + " forks, PENCE", x.bribe(500, 4), 0);
            due(forks + " forks, by none, PENCE", y.bribe(500, 4), -8);
        }
        leaves("bribe(500, 4)", x -> x.bribe(500, 4), -8);
        leaves("bribe(400, 0)", x -> x.bribe(400, 0), -8);
        says("21", "one after another");
        ForkCouncil row = told(times("fork # 300 0 1 0;", 4) + "fork e 500 0 5 0;law pass note=500 and loud=5;");
        for (int i = 0; i < 3; i++) {
            due("500", row.bribe(500, 4), 0);
            due("501", row.bribe(501, 4), -8);
            due("300", row.bribe(300, 4), -8);
        }
        row = told("law pass note=500;");
        for (int i = 0; i < 3; i++) {
            due("as loud at 500", row.bribe(500, 4), 0);
            due("as loud at 501", row.bribe(501, 4), -8);
        }
        says("21", "those who are TOUCHED don't HUM by filing");
        ForkCouncil x = told("fork a 501 0 9 0;table 9;");
        x.touch(0, true);
        due("touched", x.bribe(500, 4), -8);
    }

    private static void bribeSteps() {
        says("21", "each is filed by -4 .. 4");
        for (int by = -6; by <= 6; by++) {
            ForkCouncil x = told("fork a 300 0 0 0;fork b " + (500 - by) + " 0 9 0;table 9;purse 0 3;");
            boolean may = by >= -4 && by <= 4;
            due("PENCE by " + by, x.bribe(500, 4), may ? 3 * Math.abs(by) : -8);
            due("b by " + by, x.bribe(500, 1), may ? by : -8);
            due("a by " + by, x.bribe(500, 0), may ? 0 : -8);
        }
        says("21", "(PITCH 100 .. 999)");
        due("100 by -1", told("fork a 101 0 9 0;table 9;law hum 9*(pitch=100);").bribe(500, 0), -1);
        due("99 by none", told("fork a 101 0 9 0;table 9;law hum 9*(pitch=99);").bribe(500, 0), -8);
        due("999 by 1", told("fork a 998 0 9 0;table 9;law hum 9*(pitch=999);").bribe(500, 0), 1);
        due("1000 by none", told("fork a 998 0 9 0;table 9;law hum 9*(pitch=1000);").bribe(500, 0), -8);
        says("21", "of the first four FORKS");
        String four = times("fork # 300 0 0 0;", 3);
        due("the fourth", told(four + "fork d 501 0 9 0;table 9;").bribe(500, 3), -1);
        due("the fifth isn't", told(four + "fork d 300 0 0 0;fork e 501 0 9 0;table 9;").bribe(500, 4), -8);
        due("the fifth HUMS", told(four + "fork d 501 0 1 0;fork e 500 0 8 0;table 9;").bribe(500, 3), -1);
        due("the fifth must not", told(four + "fork d 501 0 1 0;fork e 500 0 7 0;table 9;").bribe(500, 3), -8);
        due("all four by 4", told(times("fork # 504 0 3 0;", 4) + "table 12;purse 0 99;").bribe(500, 4), 16 * 99);
        due("all four by 4, the last", told(times("fork # 504 0 3 0;", 4) + "table 12;purse 0 99;").bribe(500, 3), -4);
        due("all four by -4", told(times("fork # 496 0 3 0;", 4) + "table 12;purse 0 99;").bribe(500, 0), 4);
        says("21", "of several the first by FORKS from -4 up");
        ForkCouncil x = told("fork a 500 0 9 0;fork b 500 0 9 0;table 9;purse 0 1;law hum beats>=2;law pass loud=1;");
        due("a by -2", x.bribe(500, 0), -2);
        due("b by 0", x.bribe(500, 1), 0);
        due("PENCE", x.bribe(500, 4), 2);
        x = told("fork a 500 0 9 0;fork b 500 0 9 0;purse 0 0;law pass 1;");
        due("for nothing: a", x.bribe(500, 0), -4);
        due("for nothing: b", x.bribe(500, 1), -4);
    }

    private static void swing() {
        says("22", "what they HUM now in sum is below table, and isn't with the FORK");
        for (int table = 1; table <= 14; table++) {
            // The others: none 0, b 4, c 5, both 9; a adds 3.
            ForkCouncil x = told("fork a 500 0 3 0;fork b 500 0 4 0;fork c 500 0 5 0;table " + table + ";");
            int swings = 0;
            for (int sum : new int[] {0, 4, 5, 9}) {
                swings += sum < table && sum + 3 >= table ? 1 : 0;
            }
            due("table " + table, x.swing(0, 500), swings);
        }
        says("22", "those who don't HUM count, too");
        due("seven who don't", told("fork z 500 0 9 0;" + times("fork # 300 0 9 0;", 7) + "table 9;").swing(0, 500), 128);
        due("none but it", told("fork z 500 0 9 0;table 9;").swing(0, 500), 1);
        due("it doesn't", told("fork z 501 0 9 0;fork a 500 0 9 0;table 9;").swing(0, 500), 0);
        due("the eighth", told(times("fork # 500 0 1 0;", 8) + "table 8;").swing(7, 500), 1);
        due("the eighth, table 1", told(times("fork # 500 0 1 0;", 8) + "table 1;").swing(7, 500), 1);
        due("the first, table 9", told(times("fork # 500 0 1 0;", 8) + "table 9;").swing(0, 500), 0);
        leaves("swing(0, 500)", x -> x.swing(0, 500), 0);
        leaves("swing(2, 500)", x -> x.swing(2, 500), 0);
    }

    private static void censure() {
        says("23", "bits; 0: it wouldn't be");
        due("0", told("fork a 500 0 8 0;table 9;").censure(500), 0);
        due("one", told("fork a 500 0 9 0;table 9;").censure(500), 1);
        due("no FORKS", new ForkCouncil().censure(500), 0);
        leaves("censure(500)", x -> x.censure(500), 0);
        says("23", "-2: by none");
        due("whatever they do", told(times("fork # 500 0 9 0;", 8) + "law pass 1;").censure(500), -2);
        due("no FORKS", told("law pass 1;").censure(500), -2);
        says("23", "the fewest FORKS");
        due("all eight", told(times("fork # 500 0 9 0;", 8) + "table 1;").censure(500), 255);
        due("seven", told(times("fork # 500 0 9 0;", 8) + "table 10;").censure(500), 127);
        due("the eighth alone", told(times("fork # 500 0 1 0;", 7) + "fork h 500 0 2 0;table 8;").censure(500), 128);
        says("23", "of several the least");
        due("two of three", told(times("fork # 500 0 5 0;", 3) + "table 6;").censure(500), 3);
        due("a and c, b and c", told("fork a 500 0 4 0;fork b 500 0 4 0;fork c 500 0 6 0;table 5;").censure(500), 5);
        says("23", "TOUCHED now, too");
        ForkCouncil x = told(times("fork # 500 0 5 0;", 3) + "table 6;");
        x.touch(0, true);
        due("one of two", x.censure(500), 2);
        x.touch(1, true);
        due("it wouldn't be", x.censure(500), 0);
    }

    private static void party() {
        says("24", "PARTY (0 .. 3); NONE: no such ones");
        for (int party : new int[] {NONE, 4, 5, LEAST, MOST}) {
            leaves("party(" + party + ", 500)", x -> x.party(party, 500), NONE);
        }
        String forks = "fork a 500 0 1 0;fork b 500 0 2 1;fork c 500 0 3 2;fork d 500 0 4 3;fork e 500 0 5 3;";
        int[] dues = {1, 2, 3, 9};
        for (int party = 0; party < 4; party++) {
            due("party(" + party + ", 500)", told(forks).party(party, 500), dues[party]);
            due("none of " + party, told("table 1;").party(party, 500), 0);
        }
        due("all eight at 99", told(times("fork # 500 0 5 3;", 8) + "law hum 99;").party(3, 500), 792);
        leaves("party(3, 500)", x -> x.party(3, 500), 4);
    }

    // ---- Promises 25 to 29

    private static void rests() {
        says("25", "NONE: no such ones, alike");
        for (int fork = 0; fork < 3; fork++) {
            int same = fork;
            leaves("rests(" + fork + ", " + fork + ", 500)", x -> x.rests(same, same, 500), NONE);
            leaves("rest(" + fork + ", " + fork + ", 500, 0)", x -> x.rest(same, same, 500, 0), NONE);
        }
        due("8 and 8 of none", new ForkCouncil().rests(8, 8, 500), NONE);
        says("26", "NONE likewise, k is below 0; -2: there are no so many");
        String all = "fork a 500 0 9 0;fork b 300 0 9 0;purse 0 0;law pass 1;";
        due("all 25", told(all).rests(0, 1, 500), 25);
        due("the first", told(all).rest(0, 1, 500, 0), 0);
        due("the last", told(all).rest(0, 1, 500, 24), 44);
        due("no more", told(all).rest(0, 1, 500, 25), -2);
        for (int k : new int[] {NONE, -2, LEAST}) {
            leaves("k " + k, x -> x.rest(0, 1, 500, k), NONE);
        }
        for (int k : new int[] {1, 25, 26, MOST}) {
            leaves("k " + k, x -> x.rest(0, 1, 500, k), -2);
            due("k " + k + " alike", busy().rest(1, 1, 500, k), NONE);
        }
        leaves("rest(0, 1, 500, 0)", x -> x.rest(0, 1, 500, 0), 22);
        leaves("rests(0, 1, 500)", x -> x.rests(0, 1, 500), 1);
        says("25", "each is filed by -2 .. 2");
        for (int by = -4; by <= 4; by++) {
            ForkCouncil x = told("fork a " + (500 - by) + " 0 9 0;fork b 300 0 9 0;table 9;purse 0 1;");
            boolean may = by >= -2 && by <= 2;
            due("the first one by " + by, x.rest(0, 1, 500, 0), may ? 10 * (by + 2) + 2 : 22);
            x = told("fork a 300 0 9 0;fork b " + (500 - by) + " 0 9 0;table 9;purse 0 1;law pass loud<9;");
            due("the second one by " + by, x.rest(0, 1, 500, 0), may ? 20 + by + 2 : 22);
            due("one rest", x.rests(0, 1, 500), 1);
        }
        restsHeld();
    }

    private static void restsHeld() {
        says("25", "PITCH held within 100 .. 999");
        // Only at 102 (997) it is carried; those who are held at 100 (999) never get beyond.
        due("100 by 2", told("fork a 100 0 9 0;fork b 300 0 9 0;purse 0 0;law hum pitch=102;law pass loud;").rest(0, 1, 500, 0), 40);
        due("999 by -2", told("fork a 999 0 9 0;fork b 300 0 9 0;purse 0 0;law hum pitch=997;law pass loud;").rest(0, 1, 500, 0), 0);
        String below = "fork a 100 0 9 0;fork b 300 0 9 0;purse 0 0;law hum pitch<100;law pass loud;";
        due("none below 100: all alike", told(below).rests(0, 1, 500), 25);
        String above = "fork a 300 0 9 0;fork b 999 0 9 0;purse 0 0;law hum pitch>999;law pass loud;";
        due("none above 999: all alike", told(above).rests(0, 1, 500), 25);
        // Held at 100 by -2, -1 and 0 it is carried; the second one can't help it.
        String held = "fork a 100 0 9 0;fork b 300 0 9 0;purse 0 0;law hum pitch=100;law pass loud;";
        due("held at 100", told(held).rests(0, 1, 500), 15);
        due("the last of them", told(held).rest(0, 1, 500, 14), 24);
        String heldAbove = "fork a 999 0 9 0;fork b 300 0 9 0;purse 0 0;law hum pitch=999;law pass loud;";
        due("held at 999", told(heldAbove).rests(0, 1, 500), 15);
        due("the first of them", told(heldAbove).rest(0, 1, 500, 0), 20);
        says("25", "neither would have more otherwise");
        String priced = "fork a 501 0 9 0;fork b 300 0 9 0;table 9;purse 0 ";
        due("1 more by it", told(priced + "19;").rest(0, 1, 500, 0), 12);
        due("it alone", told(priced + "19;").rests(0, 1, 500), 1);
        due("as much by it", told(priced + "20;").rests(0, 1, 500), 2);
        due("1 less by it", told(priced + "21;").rest(0, 1, 500, 0), 22);
        due("not it", told(priced + "21;").rests(0, 1, 500), 1);
        String other = "fork a 300 0 9 0;fork b 500 0 9 0;table 9;purse 0 ";
        due("the second one, 1 more", told(other + "19;").rests(0, 1, 500), 2);
        due("the second one, as much", told(other + "20;").rests(0, 1, 500), 3);
        due("the second one, 1 less", told(other + "21;").rests(0, 1, 500), 1);
    }

    private static void likely() {
        says("27", "in least terms");
        int[][] dues = {{0, 1}, {1, 10}, {1, 5}, {3, 10}, {2, 5}, {1, 2}, {3, 5}, {7, 10}, {4, 5}, {9, 10}, {1, 1}};
        for (int k = 0; k <= 10; k++) {
            ForkCouncil x = told("motion m 500 0;law pass damp<" + k + ";");
            due(k + " of 10, above", x.likely(0, 0), dues[k][0]);
            due(k + " of 10, below", x.likely(0, 1), dues[k][1]);
        }
        says("27", "on today's DAY, as all is now");
        ForkCouncil now = told("fork a 509 0 9 0;motion m 500 0;motion n 508 0;table 9;purse 9 1;law pass loud>=9 and day<2;");
        due("PITCH 509, WET 9", now.likely(0, 1), 10);
        now.file(0, 1);
        due("PITCH 510", now.likely(0, 0), 0);
        now.undo();
        due("PITCH 509 again", now.likely(0, 0), 1);
        now.touch(0, true);
        due("TOUCHED", now.likely(0, 0), 0);
        now.go(1);
        due("the next DAY", now.likely(0, 0), 1);
        now.go(1);
        due("DAY 2", now.likely(0, 0), 0);
        says("27", "of WET 0 .. 9");
        due("0 is one", told("motion m 500 0;law pass damp=0;").likely(0, 1), 10);
        due("9 is one", told("motion m 500 0;law pass damp=9;").likely(0, 1), 10);
        due("10 is none", told("motion m 500 0;law pass damp>9;").likely(0, 0), 0);
        due("-1 is none", told("motion m 500 0;law pass damp<0;").likely(0, 0), 0);
        says("27", "NONE: no such ones");
        for (int motion : new int[] {NONE, 4, 10, LEAST, MOST}) {
            leaves("likely(" + motion + ", 0)", x -> x.likely(motion, 0), NONE);
            due("likely(" + motion + ", 1)", busy().likely(motion, 1), NONE);
        }
        for (int what : new int[] {NONE, 2, LEAST, MOST}) {
            leaves("likely(0, " + what + ")", x -> x.likely(0, what), NONE);
        }
        due("none at all", new ForkCouncil().likely(0, 0), NONE);
        leaves("likely(3, 0)", x -> x.likely(3, 0), 0);
        leaves("likely(3, 1)", x -> x.likely(3, 1), 1);
        due("the tenth", told(times("motion # 500 0;", 10) + "law pass 1;").likely(9, 0), 1);
        due("no eleventh", told(times("motion # 500 0;", 10) + "law pass 1;").likely(10, 0), NONE);
    }

    private static void order() {
        says("28", "for n DAYS 1 .. 4");
        for (int n : new int[] {NONE, 0, 5, 6, LEAST, MOST}) {
            leaves("order(" + n + ", 0)", x -> x.order(n, 0), NONE);
            due("order(" + n + ", 4)", busy().order(n, 4), NONE);
        }
        says("28", "what 0 .. 4");
        for (int what : new int[] {NONE, 5, 6, LEAST, MOST}) {
            leaves("order(1, " + what + ")", x -> x.order(1, what), NONE);
            due("order(4, " + what + ")", busy().order(4, what), NONE);
        }
        says("28", "each on one of these DAYS from today on");
        for (int n = 1; n <= 4; n++) {
            for (int day = 0; day <= 5; day++) {
                ForkCouncil x = told("motion m 500 9;law pass day=" + (day + 7) + ";");
                x.put(0, 99);
                x.go(7);
                due(n + " days, carried on the " + day + ".", x.order(n, 0), day < n ? day : 0);
                due(n + " days, carried on the " + day + ". by", x.order(n, 4), day < n ? 1 : 0);
            }
        }
        says("28", "-2: not so many");
        for (int motions = 0; motions <= 6; motions++) {
            ForkCouncil x = told(times("motion # 500 9;", motions) + "law pass day=1;");
            for (int what = 0; what < 4; what++) {
                due(motions + " motions, what " + what, x.order(2, what), what < motions ? 1 : -2);
            }
            due(motions + " motions, carried", x.order(2, 4), Math.min(4, motions));
        }
        // Only j can be carried, on the second day, when it is dry and a isn't touched.
        leaves("order(4, 4)", x -> x.order(4, 4), 1);
        leaves("order(4, 0)", x -> x.order(4, 0), 0);
        leaves("order(4, 2)", x -> x.order(4, 2), 1);
    }

    private static void orderFull() {
        says("28", "the first four MOTIONS that aren't struck yet (by numbers)");
        ForkCouncil x = told("motion a 500 0;motion b 501 0;" + times("motion x# 600 50;", 4) + "motion z 700 2;motion y 700 50;law pass day=2;");
        due("a, b and two of x, all on the third", x.order(3, 0), 2);
        due("z on its own DAY, too", x.order(3, 4), 5);
        x.go(1);
        due("four of x", x.order(2, 3), 1);
        due("four of x, and z", x.order(2, 4), 5);
        due("one DAY: on the first, in vain", x.order(1, 0), 0);
        due("one DAY", x.order(1, 4), 0);
        x.go(9);
        due("only those that aren't: four of x", x.order(1, 3), 0);
        due("none", x.order(1, 4), 0);
        says("28", "the others on theirs");
        x = told(times("motion # 500 50;", 4) + "motion e 500 0;motion f 500 3;motion g 500 4;law pass note=500;");
        due("four DAYS: not g", x.order(4, 4), 6);
        due("three DAYS: not f", x.order(3, 4), 5);
        due("one DAY", x.order(1, 4), 5);
        says("28", "of several the first by MOTIONS, DAY by DAY");
        x = told("motion a 500 3;motion b 500 3;law pass day<>0 and day<>2;");
        due("a on the second", x.order(4, 0), 1);
        due("b on the second", x.order(4, 1), 1);
        x = told("motion a 500 3;motion b 600 3;law pass note=600;");
        due("a on none: the first", x.order(4, 0), 0);
        due("b on the first", x.order(4, 1), 0);
        says("28", "all are struck");
        x = told("motion a 500 0;law pass 1;");
        x.go(1);
        due("not so many", x.order(1, 0), -2);
        due("none more", x.order(4, 4), 0);
        says("28", "on the last DAY, too");
        x = late();
        x.go(2);
        due("none", x.order(4, 4), 0);
        due("the first", x.order(4, 0), 0);
    }

    private static void room() {
        says("29", "BEATS are WIDTH at most");
        for (int width = 0; width <= 12; width++) {
            ForkCouncil x = told("fork a 500 " + width + " 9 0;");
            due("up, WIDTH " + width, x.room(0, 510), Math.max(0, 10 - width));
            due("down, WIDTH " + width, x.room(0, 490), Math.max(0, 10 - width));
        }
        says("29", "by how much it must be filed at least (0 .. 899)");
        due("899 up", told("fork a 100 0 9 0;").room(0, 999), 899);
        due("by the octave", told("fork a 100 1 9 0;").room(0, 999), 399);
        due("799 down", told("fork a 999 0 9 0;").room(0, 100), 799);
        says("29", "-2: by none (PITCH 100 .. 999)");
        due("1000 less 1", told("fork a 100 0 9 0;wet 1;").room(0, 999), -2);
        due("999 less 1 of 998", told("fork a 100 0 9 0;wet 1;").room(0, 997), 898);
        due("WIDTH 0, 9 wet", told("fork a 999 0 9 0;wet 9;").room(0, 999), -2);
        due("WIDTH 1, 9 wet, by the octave", told("fork a 999 1 9 0;wet 9;").room(0, 999), 490);
        due("WIDTH 8, 9 wet, by the octave", told("fork a 999 8 9 0;wet 9;").room(0, 999), 487);
        due("WIDTH 9, 9 wet", told("fork a 999 9 9 0;wet 9;").room(0, 999), 0);
        leaves("room(1, 500)", x -> x.room(1, 500), 95);
        leaves("room(0, 500)", x -> x.room(0, 500), 0);
    }

    // ---- Promises 30 to 33

    private static ForkCouncil noted24() {
        ForkCouncil x = told("fork a 500 20 9 0;motion m 500 0;motion n 530 0;table 9;");
        for (int i = 0; i < 24; i++) {
            x.minute(i % 2, i % 2 == 0);
        }
        return x;
    }

    private static void minutes() {
        says("30", "at most 24, numbered from 0 on; NONE: there are 24");
        ForkCouncil x = told("motion m 500 0;");
        for (int i = 0; i < 24; i++) {
            due("minute " + i, x.minute(0, true), i);
            due("that many", x.count(12), i + 1);
        }
        due("the 25th", x.minute(0, true), NONE);
        due("24", x.count(12), 24);
        leaves(BoundaryTest::noted24, "minute", y -> y.minute(0, true), NONE);
        leaves(BoundaryTest::noted24, "minute, not", y -> y.minute(1, false), NONE);
        says("31", "NONE: there are 24");
        leaves(BoundaryTest::noted24, "out(0)", y -> y.out(0), NONE);
        leaves(BoundaryTest::noted24, "out(23)", y -> y.out(23), NONE);
        leaves(BoundaryTest::noted24, "out(24)", y -> y.out(24), NONE);
        x = told("motion m 500 0;");
        x.minute(0, true);
        for (int i = 1; i < 24; i++) {
            due("out " + i, x.out(i - 1), i);
        }
        due("the 25th", x.out(23), NONE);
        says("30", "NONE: no such MOTION");
        for (int motion : new int[] {NONE, 4, 10, LEAST, MOST}) {
            leaves("minute(" + motion + ")", y -> y.minute(motion, true), NONE);
        }
        due("none at all", new ForkCouncil().minute(0, true), NONE);
        due("the last MOTION", busy().minute(3, false), 3);
        says("31", "One may strike one ahead of it; NONE: no such ones");
        for (int minute : new int[] {NONE, 3, 4, 23, 24, LEAST, MOST}) {
            leaves("out(" + minute + ") of three", y -> y.out(minute), NONE);
        }
        due("the last of three", busy().out(2), 3);
        due("the first of three", busy().out(0), 3);
        due("none at all", told("motion m 500 0;").out(0), NONE);
        says("30", "MINUTES can't be undone");
        x = busy();
        x.minute(0, true);
        due("as many", x.count(14), 4);
        x.out(0);
        due("as many", x.count(14), 4);
        due("undone is PENCE", x.undo(), 3);
        due("MINUTES stay", x.count(12), 5);
    }

    private static void known() {
        says("32", "false: no such n");
        for (int n : new int[] {-2, -3, 4, 5, 24, LEAST, MOST}) {
            leaves("known(" + n + ") of three", x -> bit(x.known(n)), 0);
        }
        leaves(BoundaryTest::noted24, "known(25) of 24", x -> bit(x.known(25)), 0);
        says("32", "KNOWN by n from now on: true");
        for (int n = 0; n <= 3; n++) {
            ForkCouncil x = busy();
            due("known(" + n + ") of three", bit(x.known(n)), 1);
            due("by how many", x.count(13), n);
            due("again", bit(x.known(n)), 1);
            x.minute(0, true);
            due("none of those to come", x.count(13), n);
        }
        due("24 of 24", bit(noted24().known(24)), 1);
        due("0 of none", bit(new ForkCouncil().known(0)), 1);
        due("1 of none", bit(new ForkCouncil().known(1)), 0);
        due("all of none", bit(new ForkCouncil().known(-1)), 1);
        says("32", "-1: by all, also those to come");
        ForkCouncil x = busy();
        due("by all", bit(x.known(-1)), 1);
        due("three", x.count(13), 3);
        x.minute(0, true);
        due("four", x.count(13), 4);
        due("can't be undone", x.count(14), 4);
        says("32", "all at first");
        x = told("motion m 500 0;");
        due("none", x.count(13), 0);
        x.minute(0, true);
        due("one", x.count(13), 1);
    }

    private static void widths() {
        says("33", "0, 10, .. 90 (bits 0 .. 9)");
        int[] offs = {0, 1, 9, 10, 11, 20, 21, 80, 81, 89, 90, 91};
        int[] dues = {1023, 1022, 1022, 1022, 1020, 1020, 1016, 768, 512, 512, 512, 0};
        for (int i = 0; i < offs.length; i++) {
            ForkCouncil x = told("fork a 500 99 9 0;motion m " + (500 + offs[i]) + " 0;table 9;");
            x.minute(0, true);
            due(offs[i] + " off, CARRIED", x.widths(0), dues[i]);
            x = told("fork a 500 99 9 0;motion m " + (500 + offs[i]) + " 0;table 9;");
            x.minute(0, false);
            due(offs[i] + " off, not CARRIED", x.widths(0), 1023 - dues[i]);
        }
        says("33", "on its told DAY as it goes from the TEXT on (nothing done by call)");
        for (int day : new int[] {0, 1, 98, 99}) {
            ForkCouncil x = told("fork a 500 9 9 0;motion m 500 " + day + ";law pass loud>0 and day=" + day + ";");
            x.put(0, 50);
            x.minute(0, true);
            due("DAY " + day, x.widths(0), 1023);
            x.touch(0, true);
            x.go(99);
            x.go(99);
            due("DAY " + day + ", later", x.widths(0), 1023);
        }
        says("33", "none KNOWN");
        ForkCouncil x = noted24();
        due("all 24", x.widths(0), 7);
        x.known(0);
        due("none", x.widths(0), 1023);
        x.known(1);
        due("the first", x.widths(0), 1023);
        x.known(2);
        due("two", x.widths(0), 7);
        says("33", "what strikes may be STRUCK: then it doesn't count; asked from the last one on");
        x = told("fork a 500 99 9 0;motion m 525 0;table 9;");
        x.minute(0, true);
        for (int i = 0; i < 23; i++) {
            due("a row of " + i + " that strike", x.widths(0), i % 2 == 0 ? 1016 : 1023);
            x.out(i);
        }
        for (int n = 1; n <= 24; n++) {
            x.known(n);
            due("KNOWN by " + n, x.widths(0), n % 2 == 1 ? 1016 : 1023);
        }
        says("33", "as it goes from the TEXT on, whatever was tried ahead");
        x = told("fork a 500 0 9 0;fork b 300 0 9 0;crack b;motion m 500 1;table 18;rusty 5;");
        x.minute(0, true);
        for (int what = 0; what <= 5; what++) {
            x.tried(what, 0, 9);
            due("behind tried(" + what + ")", x.widths(0), 1022);
        }
        x.chance(1, 9, 1);
        due("behind chance", x.widths(0), 1022);
        leaves("widths(0)", y -> y.widths(0), 1023);
        leaves("widths(2)", y -> y.widths(2), 1023);
    }

    // ---- Promises 34 to 39

    private static void chance() {
        says("34", "a seed 0 .. 2147483647");
        for (int seed : new int[] {NONE, -2, LEAST}) {
            leaves("chance(" + seed + ", 1, 0)", x -> x.chance(seed, 1, 0), NONE);
        }
        due("0", busy().chance(0, 1, 0), 10);
        due("2147483647", busy().chance(MOST, 1, 0), 10);
        // From 0 on: 0, 21468, 9988, 22117, 3498, 16927, 16045, 19741, 12122, 8410.
        int[] fromNone = {0, 8, 8, 7, 8, 7, 5, 1, 2, 0};
        for (int damp = 0; damp < 10; damp++) {
            int times = 0;
            for (int one : fromNone) {
                times += one == damp ? 1 : 0;
            }
            due("0, damp " + damp, told("motion m 500 0;law pass damp=" + damp + ";").chance(0, 1, 1), times);
            due("2147483647, damp " + damp, told("motion m 500 0;law pass damp=" + damp + ";").chance(MOST, 1, 1), drawn(MOST, damp));
            due("1, damp " + damp, told("motion m 500 0;law pass damp=" + damp + ";").chance(1, 1, 1), drawn(1, damp));
        }
        says("34", "n 1 .. 99 DAYS from now");
        for (int n : new int[] {NONE, 0, 100, 101, LEAST, MOST}) {
            leaves("chance(1, " + n + ", 0)", x -> x.chance(1, n, 0), NONE);
        }
        due("1 DAY isn't enough", told("motion m 500 1;law pass 1;").chance(1, 1, 1), 0);
        due("2 DAYS are", told("motion m 500 1;law pass 1;").chance(1, 2, 1), 10);
        due("99 DAYS are", told("motion m 500 98;law pass 1;").chance(1, 99, 1), 10);
        due("99 DAYS aren't", told("motion m 500 99;law pass 1;").chance(1, 99, 1), 0);
        says("34", "so many 0 .. 10 more at least are CARRIED");
        for (int carried : new int[] {NONE, 11, 12, LEAST, MOST}) {
            leaves("chance(1, 1, " + carried + ")", x -> x.chance(1, 1, carried), NONE);
        }
        String ten = times("motion # 500 0;", 10) + "law pass 1;";
        due("10 of 10", told(ten).chance(1, 1, 10), 10);
        due("10 of 9", told(times("motion # 500 0;", 9) + "law pass 1;").chance(1, 1, 10), 0);
        due("9 of 9", told(times("motion # 500 0;", 9) + "law pass 1;").chance(1, 1, 9), 10);
        due("0 of none", new ForkCouncil().chance(1, 1, 0), 10);
        due("1 of none", new ForkCouncil().chance(1, 1, 1), 0);
        ForkCouncil x = told(ten);
        x.go(1);
        due("more than now", x.chance(1, 1, 1), 0);
        // It must be dry on the second day, and the ten have 8 9 6 2 3 5 8 0 6 3 then.
        leaves("chance(1, 9, 1)", y -> y.chance(1, 9, 1), 1);
    }

    /** How many of the first ten numbers from a seed on are so by ten. */
    private static int drawn(int seed, int damp) {
        BigInteger last = BigInteger.valueOf(seed);
        int times = 0;
        for (int i = 0; i < 10; i++) {
            last = last.multiply(BigInteger.valueOf(1103515245)).add(BigInteger.valueOf(12345)).mod(BigInteger.ONE.shiftLeft(31));
            times += last.shiftRight(16).mod(BigInteger.TEN).intValue() == damp ? 1 : 0;
        }
        return times;
    }

    private static void tried() {
        says("35", "TRIED (n 0 .. 99)");
        for (int n : new int[] {NONE, 100, LEAST, MOST}) {
            for (int what = 0; what <= 5; what++) {
                due("tried(" + what + ", 0, " + n + ")", busy().tried(what, 0, n), NONE);
            }
            leaves("tried(0, 0, " + n + ")", x -> x.tried(0, 0, n), NONE);
        }
        due("99 DAYS", told("motion m 500 98;law pass 1;").tried(0, 0, 99), 1);
        due("98 DAYS", told("motion m 500 98;law pass 1;").tried(0, 0, 98), 0);
        says("35", "0 .. 5; NONE: no such ones");
        for (int what : new int[] {NONE, 6, 7, LEAST, MOST}) {
            leaves("tried(" + what + ", 0, 1)", x -> x.tried(what, 0, 1), NONE);
        }
        says("35", "i 0 of all but 2");
        for (int i : new int[] {NONE, 1, 2, LEAST, MOST}) {
            for (int what : new int[] {0, 1, 3, 4, 5}) {
                due("tried(" + what + ", " + i + ", 1)", busy().tried(what, i, 1), NONE);
            }
        }
        for (int what = 0; what <= 5; what++) {
            due("0 DAYS, " + what, busy().tried(what, 0, 0), 0);
        }
        due("2 of the last FORK", busy().tried(2, 2, 1), 0);
        due("2 without FORKS", new ForkCouncil().tried(2, 0, 1), NONE);
        due("1 without FORKS", new ForkCouncil().tried(1, 0, 1), 0);
        says("35", "no DAY more");
        String dry = times("motion # 500 2;", 3) + times("motion x# 500 3;", 3) + "fork a 500 0 9 0;law pass 1;";
        for (int what = 0; what <= 5; what++) {
            due("2 DAYS, " + what, told(dry).tried(what, 0, 2), 0);
            due("3 DAYS, " + what, told(dry).tried(what, 0, 3), 3);
            due("4 DAYS, " + what, told(dry).tried(what, 0, 4), 6);
        }
        says("35", "no wet, without FORK i, no rust, none CRACKED, none TOUCHED leave all as it was");
        // n on day 2 at 400, j on day 3 at 500: c adds 4 unless it isn't cracked.
        int[] dues = {1, 1, 0, 1, 1, 1};
        for (int what = 0; what <= 5; what++) {
            int which = what;
            leaves("tried(" + what + ", 0, 9)", x -> x.tried(which, 0, 9), dues[what]);
        }
        triedOtherwise();
    }

    private static void triedOtherwise() {
        says("35", "1 no wet");
        due("damp is 0", told("motion m 500 0;motion n 500 1;wet 3;wet 4;law pass damp=0;").tried(1, 0, 2), 2);
        due("as it goes", told("motion m 500 0;motion n 500 1;wet 3;wet 4;law pass damp=0;").tried(0, 0, 2), 0);
        says("35", "3 no rust");
        String rusty = "fork a 500 0 9 0;motion m 500 0;motion n 500 1;motion k 500 2;table 9;rusty 1;";
        due("as it goes", told(rusty).tried(0, 0, 3), 1);
        due("by rusty", told(rusty).tried(3, 0, 3), 3);
        due("by a law", told(rusty + "law rust 5;").tried(3, 0, 3), 3);
        says("35", "4 none is CRACKED");
        String cracked = "fork a 600 0 9 0;crack a;motion m 500 0;motion n 600 1;table 9;";
        due("as it goes", told(cracked).tried(0, 0, 2), 2);
        due("none", told(cracked).tried(4, 0, 2), 1);
        says("35", "5 none is TOUCHED");
        ForkCouncil x = told("fork a 500 0 9 0;fork b 500 0 9 0;motion m 500 0;motion n 500 1;table 18;");
        x.touch(0, true);
        x.touch(1, true);
        due("as it goes", x.tried(0, 0, 2), 1);
        due("none", x.tried(5, 0, 2), 2);
        says("35", "2 without FORK i");
        x = told("fork a 500 0 9 0;fork b 500 0 5 0;motion m 500 0;table 9;");
        due("a", x.tried(2, 0, 1), 0);
        due("b", x.tried(2, 1, 1), 1);
        x = told(times("fork # 500 0 1 0;", 7) + "fork h 500 0 2 0;motion m 500 0;table 8;");
        due("the eighth", x.tried(2, 7, 1), 0);
        due("the seventh", x.tried(2, 6, 1), 1);
        triedApart();
    }

    /** Each of them changes what it says and nothing else: z is the FORK without which it is tried. */
    private static void triedApart() {
        says("35", "0 .. 5, one at a time");
        String z = "fork z 999 0 0 0;";
        apart("dry", z + "motion m 500 0;wet 3;law pass damp=0;", 0, 1, 0, 0, 0, 0);
        apart("wet", z + "motion m 500 0;wet 3;law pass damp=3;", 1, 0, 1, 1, 1, 1);
        apart("without rust", z + "fork a 500 0 9 0;motion m 500 1;table 9;rusty 1;", 0, 0, 0, 1, 0, 0);
        apart("by rust", z + "fork a 501 0 9 0;motion m 500 1;table 9;rusty 1;", 1, 1, 1, 0, 1, 1);
        apart("by a law of rust", z + "fork a 501 0 9 0;motion m 500 1;table 9;law rust 1;", 1, 1, 1, 0, 1, 1);
        apart("cracked", z + "fork a 700 0 9 0;crack a;motion m 500 0;table 9;", 1, 1, 1, 1, 0, 1);
        apart("not cracked", z + "fork a 700 0 9 0;crack a;motion m 500 0;law pass loud=0;", 0, 0, 0, 0, 1, 0);
        apart("not touched", z + "fork t 500 0 9 0;motion m 500 0;table 9;", 0, 0, 0, 0, 0, 1);
        apart("touched", z + "fork t 500 0 9 0;motion m 500 0;law pass loud=0;", 1, 1, 1, 1, 1, 0);
        apart("by z", "fork z 500 0 9 0;motion m 500 0;table 9;", 1, 1, 0, 1, 1, 1);
        apart("without z", "fork z 500 0 9 0;motion m 500 0;law pass loud=0;", 0, 0, 1, 0, 0, 0);
        apart("without z, whatever the law", "fork z 500 0 9 0;motion m 500 0;law hum 5;law pass loud=0;", 0, 0, 1, 0, 0, 0);
    }

    private static void apart(String name, String text, int... dues) {
        ForkCouncil all = told(text);
        all.touch(all.named(0, letters("t")), true);
        for (int what = 0; what <= 5; what++) {
            ForkCouncil x = told(text);
            x.touch(x.named(0, letters("t")), true);
            due(name + ", tried(" + what + ", 0, 2)", x.tried(what, 0, 2), dues[what]);
            due(name + ", in a row, tried(" + what + ", 0, 2)", all.tried(what, 0, 2), dues[what]);
            due(name + ", ahead behind tried(" + what + ")", all.ahead(2, 0, 0), dues[0]);
        }
    }

    private static void undo() {
        says("36", "NONE: none");
        leaves(ForkCouncil::new, "a new object", x -> x.undo(), NONE);
        due("one", late().undo(), 0);
        says("36", "20 at most");
        for (int deeds : new int[] {1, 19, 20, 21, 22, 45}) {
            ForkCouncil x = told("purse 0 0;");
            for (int i = 0; i < deeds; i++) {
                x.earn(1);
                due("what can be undone behind " + (i + 1), x.count(14), Math.min(20, i + 1));
            }
            int kept = Math.min(20, deeds);
            for (int left = kept - 1; left >= 0; left--) {
                due("the latest of " + deeds, x.undo(), left);
                due("left of " + deeds, x.count(14), left);
                due("PENCE", x.count(6), deeds - kept + left);
            }
            due("none of " + deeds, x.undo(), NONE);
            due("PENCE stay", x.count(6), deeds - kept);
        }
        undoEach();
        says("36", "if no DAY went by since");
        ForkCouncil x = busy();
        x.go(0);
        due("go(0)", x.count(14), 4);
        x.go(100);
        due("go(100)", x.count(14), 4);
        x.go(1);
        due("go(1)", x.count(14), 0);
        due("none", x.undo(), NONE);
        due("the PURSE stays", x.count(6), 53);
        due("the filing stays", x.fork(1, 0), 400);
        x.earn(1);
        due("since", x.undo(), 0);
        due("not the ones ahead of it", x.undo(), NONE);
        x.earn(1);
        x.go(99);
        due("99 DAYS", x.undo(), NONE);
    }

    private static void undoEach() {
        says("36", "Touching, filing, putting off, PENCE by call can be undone, the latest first");
        ForkCouncil x = busy();
        due("PENCE", x.undo(), 3);
        due("the PURSE", x.count(6), 48);
        due("the DAY stays", motion(x, 2, 1), 9);
        due("putting off", x.undo(), 2);
        due("the DAY", motion(x, 2, 1), 5);
        due("PITCH stays", x.fork(1, 0), 401);
        due("filing", x.undo(), 1);
        due("PITCH", x.fork(1, 0), 398);
        due("the PURSE", x.count(6), 60);
        due("PAID", x.count(7), 0);
        due("TOUCHED stays", x.fork(0, 5), 1);
        due("touching", x.undo(), 0);
        due("TOUCHED no more", x.fork(0, 5), 0);
        due("none", x.undo(), NONE);
        x.file(2, -5);
        due("filing down", x.fork(2, 0), 983);
        due("undone", x.undo(), 0);
        due("PITCH", x.fork(2, 0), 988);
        due("the PURSE", x.count(6), 60);
        says("36", "20 at most, whatever they are");
        ForkCouncil y = told("fork a 500 0 5 0;fork b 500 0 5 0;motion m 500 3;motion n 500 3;purse 0 0;");
        y.earn(7);
        y.file(0, 5);
        y.put(0, 50);
        for (int i = 0; i < 6; i++) {
            y.touch(i % 2, true);
            y.put(i % 2, 10 + i);
            y.file(i % 2, i + 1);
            y.earn(i + 1);
            y.touch(i % 2, false);
        }
        due("twenty of 33", y.count(14), 20);
        for (int left = 19; left >= 0; left--) {
            due("undo", y.undo(), left);
        }
        // The first thirteen stand: those of the start, and of i 0 and 1.
        due("PITCH of a", y.fork(0, 0), 506);
        due("PITCH of b", y.fork(1, 0), 502);
        due("the PURSE", y.count(6), 7 + 1 + 2);
        due("the DAY of m", motion(y, 0, 1), 10);
        due("the DAY of n", motion(y, 1, 1), 11);
        due("TOUCHED", y.count(11), 0);
        due("none", y.undo(), NONE);
        says("36", "a refused one can't be undone, nor what is undone again");
        x.touch(0, false);
        x.file(0, 0);
        x.file(0, 99);
        x.put(0, 5);
        x.put(1, 2);
        x.earn(0);
        due("none", x.count(14), 0);
    }

    private static void images() {
        says("37", "An IMAGE is kept (in place of one ahead): which DAY it is");
        ForkCouncil x = busy();
        due("DAY 2", x.keep(), 2);
        due("what can be undone stays", x.count(14), 4);
        x.go(5);
        due("back in DAY 2", x.back(), 2);
        due("not the one ahead", x.back(), 2);
        due("DAY 0", new ForkCouncil().keep(), 0);
        x = late();
        x.go(2);
        due("DAY 9900", x.keep(), 9900);
        says("38", "NONE: there is none");
        leaves(ForkCouncil::new, "a new object", y -> y.back(), NONE);
        Setup none = () -> {
            ForkCouncil y = busy();
            y.text(18);
            y.earn(5);
            return y;
        };
        leaves(none, "behind a text", y -> y.back(), NONE);
        says("38", "All (but MINUTES) is as in the IMAGE (nothing to undo then)");
        Setup kept = () -> {
            ForkCouncil y = told("fork a 500 3 9 0;motion m 500 0;motion n 500 4;table 9;wet 0;wet 2;purse 60 4;rusty 1;");
            y.minute(0, true);
            y.go(1);
            y.touch(0, true);
            y.file(0, 5);
            y.put(1, 7);
            return y;
        };
        x = kept.make();
        String before = look(x);
        x.keep();
        alike("keep()", look(x), before);
        x.touch(0, false);
        x.file(0, -9);
        x.put(1, 2);
        x.earn(50);
        x.go(3);
        x.earn(2);
        due("the DAY", x.back(), 1);
        due("nothing to undo", x.undo(), NONE);
        // The fifteenth count is what can be undone.
        alike("back()", look(x), before.replaceFirst("^((?:\\S+ ){14})3 ", "$10 "));
        says("38", "all but MINUTES");
        x = kept.make();
        x.keep();
        x.minute(1, false);
        x.out(0);
        x.back();
        due("those behind it stay", x.count(12), 3);
        says("38", "the IMAGE stays");
        x.go(2);
        due("again", x.back(), 1);
        due("and again", x.back(), 1);
        x.earn(1);
        due("deeds behind it", x.back(), 1);
        due("are gone", x.count(14), 0);
        due("the PURSE, too", x.count(6), 40);
    }

    private static void count() {
        says("39", "NONE for another what");
        for (int what : new int[] {NONE, 15, 16, LEAST, MOST}) {
            leaves("count(" + what + ")", x -> x.count(what), NONE);
        }
        says("39", "0 FORKS .. 14 what can be undone");
        int[] dues = {3, 4, 1, 3, 3, 2, 53, 12, 1, 0, 13, 1, 3, 2, 4};
        for (int what = 0; what <= 14; what++) {
            due("count(" + what + ")", busy().count(what), dues[what]);
        }
        says("39", "full");
        ForkCouncil x = told(FULL);
        int[] full = {8, 10, 0, 8, 64, 0, 100, 0, 0, 0, 0, 0, 0, 0, 0};
        for (int what = 0; what <= 14; what++) {
            due("count(" + what + ")", x.count(what), full[what]);
        }
        x.go(1);
        due("CARRIED", x.count(8), 10);
        due("FALLEN", x.count(9), 0);
        due("HEARD", x.count(10), 80);
        x = told(times("fork # 500 0 9 0;", 8) + times("motion # 500 0;", 10) + "law hum 99;law pass 0;");
        x.go(1);
        due("CARRIED", x.count(8), 0);
        due("FALLEN", x.count(9), 10);
        due("HEARD", x.count(10), 7920);
    }

    // ---- Wild numbers

    private static final int[] WILD = {LEAST, LEAST + 1, -1 << 30, -65536, -10000, -1000, -101, -100, -99, -9, -8, -2, NONE, 0, 1, 2, 3, 4,
        5, 7, 8, 9, 10, 11, 23, 24, 25, 31, 32, 33, 63, 64, 98, 99, 100, 101, 255, 256, 500, 699, 700, 701, 998, 999, 1000, 9899, 9900,
        9901, 9998, 9999, 10000, 65535, 65536, 1 << 30, MOST - 1, MOST};

    /** Whatever the numbers are, only motion throws, and only what it may. */
    private static void wildNumbers() {
        says("6 and all others", "throws nothing but what the document says");
        for (int a : WILD) {
            for (int b : WILD) {
                wild(busy(), a, b);
                wild(new ForkCouncil(), a, b);
            }
        }
    }

    private static void wild(ForkCouncil x, int a, int b) {
        try {
            motion(x, a, b);
            x.fork(a, b);
            x.named(a, b);
            x.fault(a);
            x.wet(a);
            x.beats(a, b);
            x.hums(a, b);
            x.struck(a, b);
            x.law(a, b, b);
            x.law(b, a, 500);
            x.ahead(a, b, b);
            x.ahead(b, 3, a);
            x.best(a);
            x.bribe(a, b);
            x.swing(a, b);
            x.censure(a);
            x.party(a, b);
            x.rests(a, b, 500);
            x.rests(0, a, b);
            x.rest(a, b, 500, a);
            x.rest(0, 1, a, b);
            x.likely(a, b);
            x.order(a, b);
            x.room(a, b);
            x.widths(a);
            x.chance(a, b, a);
            x.chance(a, 3, b);
            x.tried(a, b, a);
            x.tried(2, a, b);
            x.count(a);
            x.minute(a, true);
            x.out(a);
            x.known(a);
            x.touch(a, true);
            x.file(a, b);
            x.put(a, b);
            x.earn(a);
            x.undo();
            x.go(a);
            x.feed(a, b, a, b, a);
            x.text(a);
            x.keep();
            x.back();
        } catch (RuntimeException e) {
            wrong++;
            System.out.println(sentence + ": " + a + ", " + b + ": " + e);
        }
    }
}

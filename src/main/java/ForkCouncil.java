import java.util.Arrays;
import java.util.NoSuchElementException;

/** Tuning forks in council; the promises stand in the project's document. */
public final class ForkCouncil {
    public static final int NONE = -1;

    private static final int MAX_FORKS = 8;
    private static final int MAX_MOTIONS = 10;
    private static final int MAX_WETS = 8;
    private static final int MAX_KNOTS = 64;
    private static final int MAX_OPEN = 8;
    private static final int MAX_MINUTES = 24;
    private static final int MAX_DEEDS = 20;
    private static final int MAX_TAPE = 700;
    private static final int LEAST_PITCH = 100;
    private static final int MOST_PITCH = 999;
    private static final int MOST_HUM = 99;
    private static final int LAST_DAY = 9999;
    private static final int LAST_DAY_TO_GO = 9900;
    private static final int MOST_PENCE = 9999;
    private static final int MOST_NUMBER = 99999;
    private static final int TABLE_UNTOLD = 10;
    private static final int PURSE_UNTOLD = 100;
    private static final int PRICE_UNTOLD = 5;

    private static final int RULE_HUM = 0;
    private static final int RULE_RUST = 1;
    private static final int RULE_PASS = 2;
    private static final int RULES = 3;
    private static final int NAMES = 7;

    private static final long ERROR = Long.MIN_VALUE;
    private static final long MOST_VALUE = 1000000000000L;

    private static final int FAULT_TOKEN = 1;
    private static final int FAULT_TOO_MUCH = 2;
    private static final int FAULT_TWICE = 3;
    private static final int FAULT_UNTOLD = 4;

    private static final int END = 0;
    private static final int BAD = 1;
    private static final int NUMBER = 2;
    private static final int OWN_WORD = 3;
    private static final int SEMICOLON = 4;
    private static final int OPENING = 5;
    private static final int CLOSING = 6;
    private static final int LESS = 7;
    private static final int LESS_EQUAL = 8;
    private static final int EQUAL = 9;
    private static final int UNEQUAL = 10;
    private static final int MORE_EQUAL = 11;
    private static final int MORE = 12;
    private static final int PLUS = 13;
    private static final int MINUS = 14;
    private static final int TIMES = 15;
    private static final int OVER = 16;
    private static final int FIRST_WORD = 17;
    private static final int FORK = 17;
    private static final int CRACK = 18;
    private static final int MOTION = 19;
    private static final int TABLE = 20;
    private static final int WET = 21;
    private static final int PURSE = 22;
    private static final int RUSTY = 23;
    private static final int SEED = 24;
    private static final int LAW = 25;
    private static final int HUM = 26;
    private static final int PASS = 28;
    private static final int OR = 29;
    private static final int AND = 30;
    private static final int NOT = 31;
    private static final int FIRST_NAME = 32;
    private static final int LAST_NAME = 38;

    private static final int WORD_COUNT = 22;
    private static final int LETTERS = 6;
    // In the order of the tokens above, six signs each.
    private static final String WORDS = "fork  crack motiontable wet   purse rusty seed  law   hum   rust  pass  or    and   not   pitch note  width loud  beats damp  day   ";

    private static final int DEED_TOUCH = 0;
    private static final int DEED_FILE = 1;
    private static final int DEED_PUT = 2;
    private static final int DEED_EARN = 3;

    private final Reader reader = new Reader();
    private Told told = new Told();
    private final State now = new State();
    private final State trial = new State();
    private final State image = new State();
    private boolean imageKept;
    private final Deeds deeds = new Deeds();
    private final Minutes minutes = new Minutes();
    private final Bribe bribery = new Bribe();
    private final Duel duel = new Duel();
    private final Order ordering = new Order();

    public ForkCouncil() {
    }

    public int feed(int a, int b, int c, int d, int e) {
        if (reader.taped > MAX_TAPE - 20) {
            return NONE;
        }
        reader.append(a);
        reader.append(b);
        reader.append(c);
        reader.append(d);
        reader.append(e);
        return reader.taped;
    }

    public int text(int n) {
        if (n < 0 || n > reader.taped) {
            return -2;
        }
        reader.begin(n);
        int lines = 0;
        for (; lines < MAX_TAPE && reader.hasMore(); lines++) {
            reader.readLine();
        }
        if (reader.faultKind != 0) {
            return NONE;
        }
        told = reader.exchange(told);
        now.begin(told);
        deeds.size = 0;
        minutes.forget();
        imageKept = false;
        return lines;
    }

    public int fault(int what) {
        if (what == 0) {
            return reader.faultKind;
        }
        return what == 1 ? reader.faultPlace : NONE;
    }

    public int named(int what, int letters) {
        if (what == 0) {
            return told.forkNamed(letters);
        }
        return what == 1 ? told.motionNamed(letters) : NONE;
    }

    public int motion(int motion, int what) throws IndexOutOfBoundsException, NoSuchElementException {
        if (!isMotion(motion)) {
            throw new IndexOutOfBoundsException("no such motion");
        }
        switch (what) {
            case 0:
                return told.note[motion];
            case 1:
                return now.strikeDay[motion];
            case 2:
                return now.verdict[motion];
            case 3:
                return now.heard[motion];
            default:
                throw new NoSuchElementException("no such what");
        }
    }

    public int fork(int fork, int what) {
        if (!isFork(fork)) {
            return NONE;
        }
        switch (what) {
            case 0:
                return now.pitch[fork];
            case 1:
                return told.width[fork];
            case 2:
                return told.loud[fork];
            case 3:
                return told.party[fork];
            case 4:
                return bitOf(told.cracked, fork);
            case 5:
                return bitOf(now.touched, fork);
            default:
                return NONE;
        }
    }

    public int wet(int day) {
        return day < 0 || day > LAST_DAY ? NONE : told.wetOn(day);
    }

    public int beats(int fork, int note) {
        return isFork(fork) && isNote(note) ? now.beating(fork, note) : NONE;
    }

    public int hums(int fork, int note) {
        return isFork(fork) && isNote(note) ? now.humOf(told, fork, note) : NONE;
    }

    public int struck(int note, int what) {
        if (!isNote(note)) {
            return NONE;
        }
        switch (what) {
            case 0:
                return now.humOfAll(told, note);
            case 1:
                return now.carries(told, note) ? 1 : 0;
            case 2:
                return now.agreed(told, note);
            default:
                return NONE;
        }
    }

    public long law(int what, int fork, int note) {
        switch (what) {
            case RULE_HUM:
                return isFork(fork) && isNote(note) ? now.humLaw(told, fork, note) : ERROR;
            case RULE_RUST:
                return isFork(fork) ? now.rustLaw(told, fork) : ERROR;
            case RULE_PASS:
                return isNote(note) ? now.passLaw(told, note, now.humOfAll(told, note)) : ERROR;
            default:
                return ERROR;
        }
    }

    public boolean touch(int fork, boolean is) {
        if (!isFork(fork) || (bitOf(now.touched, fork) == 1) == is) {
            return false;
        }
        now.touched ^= 1 << fork;
        deeds.add(DEED_TOUCH, fork, 0);
        return true;
    }

    public int file(int fork, int by) {
        if (!isFork(fork) || by < -99 || by > 99 || by == 0) {
            return NONE;
        }
        int pitch = now.pitch[fork] + by;
        if (!isNote(pitch)) {
            return NONE;
        }
        int price = told.price * Math.abs(by);
        if (price > now.purse) {
            return -2;
        }
        now.filed(fork, by, price);
        deeds.add(DEED_FILE, fork, by);
        return pitch;
    }

    public boolean put(int motion, int day) {
        if (!isMotion(motion) || day < now.day || day > LAST_DAY) {
            return false;
        }
        if (now.verdict[motion] != NONE || now.strikeDay[motion] == day) {
            return false;
        }
        deeds.add(DEED_PUT, motion, now.strikeDay[motion]);
        now.strikeDay[motion] = day;
        return true;
    }

    public int earn(int pence) {
        if (pence < 1 || pence > 99 || now.purse + pence > MOST_PENCE) {
            return NONE;
        }
        now.purse += pence;
        deeds.add(DEED_EARN, 0, pence);
        return now.purse;
    }

    public int go(int n) {
        if (!isSpan(n) || now.day + n > LAST_DAY_TO_GO) {
            return NONE;
        }
        if (n > 0) {
            now.passDays(told, n);
            deeds.size = 0;
        }
        return now.day;
    }

    public int ahead(int n, int what, int fork) {
        if (!isSpan(n) || what < 0 || what > 3 || (what == 3 && !isFork(fork))) {
            return NONE;
        }
        trial.copyFrom(now);
        trial.passDays(told, n);
        if (what == 3) {
            return trial.pitch[fork];
        }
        if (what == 2) {
            return trial.heardInSum(told) - now.heardInSum(told);
        }
        int verdict = what == 0 ? 1 : 0;
        return trial.verdicts(told, verdict) - now.verdicts(told, verdict);
    }

    public int best(int what) {
        if (what != 0 && what != 1) {
            return NONE;
        }
        int bestNote = LEAST_PITCH;
        int most = NONE;
        for (int note = LEAST_PITCH; note <= MOST_PITCH; note++) {
            int sum = now.humOfAll(told, note);
            if (sum > most) {
                most = sum;
                bestNote = note;
            }
        }
        return what == 0 ? bestNote : most;
    }

    public int open() {
        int carried = 0;
        for (int note = LEAST_PITCH; note <= MOST_PITCH; note++) {
            if (now.carries(told, note)) {
                carried++;
            }
        }
        return carried;
    }

    public int bribe(int note, int what) {
        if (!isNote(note) || what < 0 || what > Bribe.BRIBED) {
            return Integer.MIN_VALUE;
        }
        if (what < Bribe.BRIBED && what >= told.forks) {
            return -9;
        }
        trial.copyFrom(now);
        bribery.seek(told, trial, note);
        if (bribery.pence == NONE) {
            return -8;
        }
        return what == Bribe.BRIBED ? bribery.pence : bribery.filingOf(what);
    }

    public int swing(int fork, int note) {
        if (!isFork(fork) || !isNote(note)) {
            return NONE;
        }
        int own = now.humOf(told, fork, note);
        now.listen(told, note);
        int swings = 0;
        for (int set = 0; set < 1 << told.forks; set++) {
            if (bitOf(set, fork) == 0) {
                int sum = now.listenedTo(set, told.forks);
                if (sum < told.table && sum + own >= told.table) {
                    swings++;
                }
            }
        }
        return swings;
    }

    public int censure(int note) {
        if (!isNote(note)) {
            return NONE;
        }
        now.listen(told, note);
        int all = (1 << told.forks) - 1;
        int fewest = -2;
        for (int set = 0; set <= all; set++) {
            if (fewest == -2 || Integer.bitCount(set) < Integer.bitCount(fewest)) {
                int sum = now.listenedTo(all & ~set, told.forks);
                if (!now.passes(told, note, sum)) {
                    fewest = set;
                }
            }
        }
        return fewest;
    }

    public int party(int party, int note) {
        if (party < 0 || party > 3 || !isNote(note)) {
            return NONE;
        }
        int sum = 0;
        for (int fork = 0; fork < told.forks; fork++) {
            if (told.party[fork] == party) {
                sum += now.humOf(told, fork, note);
            }
        }
        return sum;
    }

    public int rests(int one, int other, int note) {
        if (!arePair(one, other) || !isNote(note)) {
            return NONE;
        }
        trial.copyFrom(now);
        duel.settle(told, trial, one, other, note);
        return duel.size;
    }

    public int rest(int one, int other, int note, int k) {
        if (!arePair(one, other) || !isNote(note) || k < 0) {
            return NONE;
        }
        trial.copyFrom(now);
        duel.settle(told, trial, one, other, note);
        return k < duel.size ? duel.codes[k] : -2;
    }

    public int likely(int motion, int what) {
        if (!isMotion(motion) || (what != 0 && what != 1)) {
            return NONE;
        }
        trial.copyFrom(now);
        int carried = 0;
        for (int wet = 0; wet <= 9; wet++) {
            trial.damp = wet;
            if (trial.carries(told, told.note[motion])) {
                carried++;
            }
        }
        // Ten has no divisors but these, so they are the only ones to cut by.
        int cut = 1;
        if (carried % 10 == 0) {
            cut = 10;
        } else if (carried % 5 == 0) {
            cut = 5;
        } else if (carried % 2 == 0) {
            cut = 2;
        }
        return (what == 0 ? carried : 10) / cut;
    }

    public int order(int n, int what) {
        if (n < 1 || n > 4 || what < 0 || what > Order.ORDERED) {
            return NONE;
        }
        trial.copyFrom(now);
        ordering.seek(told, trial, n);
        if (what == Order.ORDERED) {
            return ordering.carried + trial.verdicts(told, 1) - now.verdicts(told, 1);
        }
        return what < ordering.size ? ordering.dayOf(what) : -2;
    }

    public int room(int fork, int note) {
        if (!isFork(fork) || !isNote(note)) {
            return NONE;
        }
        for (int by = 0; by <= MOST_PITCH - LEAST_PITCH; by++) {
            if (now.wouldBeat(fork, by, note) || now.wouldBeat(fork, -by, note)) {
                return by;
            }
        }
        return -2;
    }

    public int minute(int motion, boolean carried) {
        return isMotion(motion) ? minutes.add(carried ? 1 : 0, motion) : NONE;
    }

    public int out(int minute) {
        return minute >= 0 && minute < minutes.size ? minutes.add(Minutes.STRIKES, minute) : NONE;
    }

    public boolean known(int n) {
        if (n < NONE || n > minutes.size) {
            return false;
        }
        minutes.knownBy = n;
        return true;
    }

    public int widths(int fork) {
        if (!isFork(fork)) {
            return NONE;
        }
        minutes.sift();
        int days = minutes.daysToHear(told);
        int bits = 0;
        for (int i = 0; i < 10; i++) {
            trial.begin(told);
            trial.width[fork] = 10 * i;
            trial.passDays(told, days);
            if (minutes.agreeWith(trial)) {
                bits |= 1 << i;
            }
        }
        return bits;
    }

    public int chance(int seed, int n, int carried) {
        if (seed < 0 || n < 1 || n > 99 || carried < 0 || carried > 10) {
            return NONE;
        }
        int before = now.verdicts(told, 1);
        int times = 0;
        int last = seed;
        for (int time = 0; time < 10; time++) {
            trial.copyFrom(now);
            last = trial.passDaysByChance(told, n, last);
            if (trial.verdicts(told, 1) - before >= carried) {
                times++;
            }
        }
        return times;
    }

    public int tried(int what, int i, int n) {
        if (what < 0 || what > 5 || !isSpan(n) || (what == 2 ? !isFork(i) : i != 0)) {
            return NONE;
        }
        trial.copyFrom(now);
        switch (what) {
            case 2:
                trial.absent = i;
                break;
            case 3:
                trial.rusts = false;
                break;
            case 4:
                trial.cracked = 0;
                break;
            case 5:
                trial.touched = 0;
                break;
            default:
                break;
        }
        if (what == 1) {
            trial.passDryDays(told, n);
        } else {
            trial.passDays(told, n);
        }
        return trial.verdicts(told, 1) - now.verdicts(told, 1);
    }

    public int undo() {
        if (deeds.size < 1 || deeds.size > MAX_DEEDS) {
            return NONE;
        }
        deeds.size--;
        int which = deeds.which[deeds.size];
        int amount = deeds.amount[deeds.size];
        switch (deeds.kind[deeds.size]) {
            case DEED_TOUCH:
                now.touched ^= 1 << which;
                break;
            case DEED_FILE:
                now.filed(which, -amount, -told.price * Math.abs(amount));
                break;
            case DEED_PUT:
                now.strikeDay[which] = amount;
                break;
            default:
                now.purse -= amount;
                break;
        }
        return deeds.size;
    }

    public int keep() {
        image.copyFrom(now);
        imageKept = true;
        return now.day;
    }

    public int back() {
        if (!imageKept) {
            return NONE;
        }
        now.copyFrom(image);
        deeds.size = 0;
        return now.day;
    }

    public int count(int what) {
        switch (what) {
            case 0:
                return told.forks;
            case 1:
                return told.motions;
            case 2:
                return Integer.bitCount(told.cracked);
            case 3:
                return told.wets;
            case 4:
                return told.laws.knots;
            case 5:
                return now.day;
            case 6:
                return now.purse;
            case 7:
                return now.paid;
            case 8:
                return now.verdicts(told, 1);
            case 9:
                return now.verdicts(told, 0);
            case 10:
                return now.heardInSum(told);
            case 11:
                return Integer.bitCount(now.touched);
            case 12:
                return minutes.size;
            case 13:
                return minutes.reach();
            case 14:
                return deeds.size;
            default:
                return NONE;
        }
    }

    private boolean isFork(int fork) {
        return fork >= 0 && fork < told.forks;
    }

    private boolean isMotion(int motion) {
        return motion >= 0 && motion < told.motions;
    }

    private boolean arePair(int one, int other) {
        return isFork(one) && isFork(other) && one != other;
    }

    private static boolean isSpan(int days) {
        return days >= 0 && days <= 99;
    }

    // A pitch keeps to the bounds of a note, too.
    private static boolean isNote(int note) {
        return note >= LEAST_PITCH && note <= MOST_PITCH;
    }

    private static int bitOf(int bits, int place) {
        return bits >> place & 1;
    }

    private static int within(long value, int least, int most) {
        return (int) Math.max(least, Math.min(most, value));
    }

    /** The laws of a text, each as its knots with every sign behind its sides. */
    private static final class Laws {
        private final int[] start = new int[RULES];
        private final int[] end = new int[RULES];
        private final int[] tokens = new int[MAX_KNOTS];
        private final int[] numbers = new int[MAX_KNOTS];
        private int length;
        private int knots;
        private final int[] names = new int[NAMES];
        private final long[] values = new long[MAX_KNOTS];

        void clear() {
            Arrays.fill(start, 0);
            Arrays.fill(end, 0);
            length = 0;
            knots = 0;
        }

        // An E has a knot at least, so a row without any is a law that isn't told.
        boolean has(int rule) {
            return rule >= 0 && rule < RULES && start[rule] < end[rule];
        }

        void begin(int rule) {
            if (rule >= 0 && rule < RULES) {
                start[rule] = length;
            }
        }

        void finish(int rule) {
            if (rule >= 0 && rule < RULES) {
                end[rule] = length;
            }
        }

        void add(int token, int number) {
            if (length < MAX_KNOTS) {
                tokens[length] = token;
                numbers[length] = number;
                length++;
            }
        }

        void name(int pitch, int note, int width, int loud, int beating, int damp, int day) {
            names[0] = pitch;
            names[1] = note;
            names[2] = width;
            names[3] = loud;
            names[4] = beating;
            names[5] = damp;
            names[6] = day;
        }

        long valueOf(int rule) {
            if (!has(rule)) {
                return ERROR;
            }
            int height = 0;
            for (int i = start[rule]; i < end[rule]; i++) {
                int token = tokens[i];
                if (token == NUMBER || token >= FIRST_NAME) {
                    if (height >= MAX_KNOTS) {
                        return ERROR;
                    }
                    values[height] = token == NUMBER ? numbers[i] : names[(token - FIRST_NAME) % NAMES];
                    height++;
                } else if (token == NOT) {
                    if (height < 1) {
                        return ERROR;
                    }
                    values[height - 1] = values[height - 1] == 0 ? 1 : 0;
                } else {
                    if (height < 2) {
                        return ERROR;
                    }
                    height--;
                    long value = joined(token, values[height - 1], values[height]);
                    // ERROR itself is beyond the bound, too.
                    if (value > MOST_VALUE || value < -MOST_VALUE) {
                        return ERROR;
                    }
                    values[height - 1] = value;
                }
            }
            return height == 1 ? values[0] : ERROR;
        }

        private static long joined(int token, long left, long right) {
            switch (token) {
                case PLUS:
                    return left + right;
                case MINUS:
                    return left - right;
                case TIMES:
                    // A product beyond a long comes back wrapped, and then doesn't divide back.
                    return left != 0 && left * right / left != right ? ERROR : left * right;
                case OVER:
                    return right == 0 ? ERROR : left / right;
                case LESS:
                    return left < right ? 1 : 0;
                case LESS_EQUAL:
                    return left <= right ? 1 : 0;
                case EQUAL:
                    return left == right ? 1 : 0;
                case UNEQUAL:
                    return left != right ? 1 : 0;
                case MORE_EQUAL:
                    return left >= right ? 1 : 0;
                case MORE:
                    return left > right ? 1 : 0;
                case AND:
                    return left != 0 && right != 0 ? 1 : 0;
                case OR:
                    return left != 0 || right != 0 ? 1 : 0;
                default:
                    return ERROR;
            }
        }
    }

    /** What a text tells. Its seed is read, but no call draws from it. */
    private static final class Told {
        private int forks;
        private final int[] forkNames = new int[MAX_FORKS];
        private final int[] pitch = new int[MAX_FORKS];
        private final int[] width = new int[MAX_FORKS];
        private final int[] loud = new int[MAX_FORKS];
        private final int[] party = new int[MAX_FORKS];
        private int cracked;
        private int motions;
        private final int[] motionNames = new int[MAX_MOTIONS];
        private final int[] note = new int[MAX_MOTIONS];
        private final int[] day = new int[MAX_MOTIONS];
        private int wets;
        private final int[] wet = new int[MAX_WETS];
        private int table = TABLE_UNTOLD;
        private int purse = PURSE_UNTOLD;
        private int price = PRICE_UNTOLD;
        private int rusty;
        private final Laws laws = new Laws();

        void clear() {
            forks = 0;
            cracked = 0;
            motions = 0;
            wets = 0;
            table = TABLE_UNTOLD;
            purse = PURSE_UNTOLD;
            price = PRICE_UNTOLD;
            rusty = 0;
            laws.clear();
        }

        int forkNamed(int letters) {
            return placeOf(letters, forkNames, forks);
        }

        int motionNamed(int letters) {
            return placeOf(letters, motionNames, motions);
        }

        private static int placeOf(int letters, int[] row, int length) {
            for (int i = 0; i < length && i < row.length; i++) {
                if (row[i] == letters) {
                    return i;
                }
            }
            return NONE;
        }

        int wetOn(int onDay) {
            if (wets < 1 || wets > MAX_WETS || onDay < 0) {
                return 0;
            }
            return wet[onDay % wets];
        }
    }

    /** Reads the tape: tokens and lines of a text, up to its first fault. */
    private static final class Reader {
        private final byte[] tape = new byte[MAX_TAPE];
        private final int[] words = new int[WORD_COUNT];
        private int taped;
        private int faultKind;
        private int faultPlace = NONE;
        // A text with a fault must leave all as it was, so it is read apart from what is told.
        private Told draft = new Told();
        private int end;
        private int at;
        private int token;
        private int place;
        private int value;
        private int toldOnce;

        Reader() {
            for (int word = 0; word < WORD_COUNT; word++) {
                words[word] = lettersOf(word);
            }
        }

        private static int lettersOf(int word) {
            int letters = 0;
            for (int i = word * LETTERS; i < (word + 1) * LETTERS && i < WORDS.length(); i++) {
                char sign = WORDS.charAt(i);
                letters = letters << 5 | (sign == ' ' ? 0 : sign - 'a' + 1);
            }
            return letters;
        }

        void append(int number) {
            for (int shift = 24; shift >= 0 && taped < MAX_TAPE; shift -= 8) {
                tape[taped] = (byte) (number >> shift);
                taped++;
            }
        }

        void begin(int n) {
            draft.clear();
            end = Math.min(n, MAX_TAPE);
            at = 0;
            taped = 0;
            toldOnce = 0;
            faultKind = 0;
            faultPlace = NONE;
            advance();
        }

        /** Hands over what was read, for one that may be read into from now on. */
        Told exchange(Told old) {
            Told read = draft;
            draft = old;
            return read;
        }

        boolean hasMore() {
            return token != END && faultKind == 0;
        }

        private void refuse(int kind) {
            if (faultKind == 0) {
                faultKind = kind;
                faultPlace = place;
            }
        }

        void readLine() {
            switch (token) {
                case FORK:
                    readFork();
                    break;
                case CRACK:
                    readCrack();
                    break;
                case MOTION:
                    readMotion();
                    break;
                case TABLE:
                    passOnce();
                    draft.table = number(1, 99);
                    break;
                case WET:
                    readWet();
                    break;
                case PURSE:
                    passOnce();
                    draft.purse = number(0, 999);
                    draft.price = number(0, 99);
                    break;
                case RUSTY:
                    passOnce();
                    draft.rusty = number(0, 9);
                    break;
                case SEED:
                    passOnce();
                    number(0, MOST_NUMBER);
                    break;
                case LAW:
                    readLaw();
                    break;
                default:
                    refuse(FAULT_TOKEN);
                    break;
            }
            pass(SEMICOLON);
        }

        private void readFork() {
            int fork = draft.forks;
            if (fork >= MAX_FORKS) {
                refuse(FAULT_TOO_MUCH);
                return;
            }
            advance();
            draft.forkNames[fork] = newName(draft.forkNamed(value));
            draft.pitch[fork] = number(LEAST_PITCH, MOST_PITCH);
            draft.width[fork] = number(0, 99);
            draft.loud[fork] = number(0, 9);
            draft.party[fork] = number(0, 3);
            draft.forks++;
        }

        private void readMotion() {
            int motion = draft.motions;
            if (motion >= MAX_MOTIONS) {
                refuse(FAULT_TOO_MUCH);
                return;
            }
            advance();
            draft.motionNames[motion] = newName(draft.motionNamed(value));
            draft.note[motion] = number(LEAST_PITCH, MOST_PITCH);
            draft.day[motion] = number(0, 99);
            draft.motions++;
        }

        private int newName(int bearer) {
            int letters = value;
            if (token != OWN_WORD) {
                refuse(FAULT_TOKEN);
            } else if (bearer != NONE) {
                refuse(FAULT_TWICE);
            } else {
                advance();
            }
            return letters;
        }

        private void readCrack() {
            advance();
            int fork = draft.forkNamed(value);
            if (token != OWN_WORD) {
                refuse(FAULT_TOKEN);
            } else if (fork == NONE) {
                refuse(FAULT_UNTOLD);
            } else if (bitOf(draft.cracked, fork) == 1) {
                refuse(FAULT_TWICE);
            } else {
                draft.cracked |= 1 << fork;
                advance();
            }
        }

        private void readWet() {
            if (draft.wets >= MAX_WETS) {
                refuse(FAULT_TOO_MUCH);
                return;
            }
            advance();
            draft.wet[draft.wets] = number(0, 9);
            draft.wets++;
        }

        private void passOnce() {
            int bit = 1 << token - FIRST_WORD;
            if ((toldOnce & bit) != 0) {
                refuse(FAULT_TWICE);
            } else {
                toldOnce |= bit;
                advance();
            }
        }

        private void pass(int due) {
            if (faultKind != 0) {
                return;
            }
            if (token == due) {
                advance();
            } else {
                refuse(FAULT_TOKEN);
            }
        }

        private int number(int least, int most) {
            if (faultKind != 0) {
                return 0;
            }
            int found = value;
            if (token != NUMBER) {
                refuse(FAULT_TOKEN);
            } else if (found < least || found > most) {
                refuse(FAULT_TOO_MUCH);
            } else {
                advance();
            }
            return found;
        }

        private void readLaw() {
            advance();
            int rule = token - HUM;
            if (token < HUM || token > PASS) {
                refuse(FAULT_TOKEN);
            } else if (draft.laws.has(rule)) {
                refuse(FAULT_TWICE);
            } else {
                advance();
                draft.laws.begin(rule);
                readEither(0);
                draft.laws.finish(rule);
            }
        }

        private void readEither(int depth) {
            readBoth(depth);
            for (int i = 0; i <= MAX_KNOTS && faultKind == 0 && token == OR; i++) {
                passKnot();
                readBoth(depth);
                draft.laws.add(OR, 0);
            }
        }

        private void readBoth(int depth) {
            readDenial(depth);
            for (int i = 0; i <= MAX_KNOTS && faultKind == 0 && token == AND; i++) {
                passKnot();
                readDenial(depth);
                draft.laws.add(AND, 0);
            }
        }

        private void readDenial(int depth) {
            int denials = 0;
            for (int i = 0; i <= MAX_KNOTS && faultKind == 0 && token == NOT; i++) {
                passKnot();
                denials++;
            }
            readComparison(depth);
            for (int i = 0; i < denials; i++) {
                draft.laws.add(NOT, 0);
            }
        }

        private void readComparison(int depth) {
            readSum(depth);
            if (faultKind == 0 && token >= LESS && token <= MORE) {
                int sign = token;
                passKnot();
                readSum(depth);
                draft.laws.add(sign, 0);
            }
        }

        private void readSum(int depth) {
            readProduct(depth);
            for (int i = 0; i <= MAX_KNOTS && faultKind == 0 && (token == PLUS || token == MINUS); i++) {
                int sign = token;
                passKnot();
                readProduct(depth);
                draft.laws.add(sign, 0);
            }
        }

        private void readProduct(int depth) {
            readPart(depth);
            for (int i = 0; i <= MAX_KNOTS && faultKind == 0 && (token == TIMES || token == OVER); i++) {
                int sign = token;
                passKnot();
                readPart(depth);
                draft.laws.add(sign, 0);
            }
        }

        private void readPart(int depth) {
            if (faultKind != 0) {
                return;
            }
            int kind = token;
            int number = value;
            if (kind == NUMBER && number > 9999) {
                refuse(FAULT_TOO_MUCH);
            } else if (kind == NUMBER || (kind >= FIRST_NAME && kind <= LAST_NAME)) {
                passKnot();
                draft.laws.add(kind, number);
            } else if (kind != OPENING) {
                refuse(FAULT_TOKEN);
            } else if (depth >= MAX_OPEN) {
                refuse(FAULT_TOO_MUCH);
            } else {
                advance();
                readEither(depth + 1);
                pass(CLOSING);
            }
        }

        private void passKnot() {
            if (draft.laws.knots >= MAX_KNOTS) {
                refuse(FAULT_TOO_MUCH);
            } else {
                draft.laws.knots++;
                advance();
            }
        }

        private void advance() {
            for (; at < end && (tape[at] == ' ' || tape[at] == 10); at++) {
                continue;
            }
            place = at;
            value = 0;
            if (at >= end) {
                token = END;
            } else if (isLetter(tape[at])) {
                readWord();
            } else if (isDigit(tape[at])) {
                readNumber();
            } else {
                readSign();
            }
        }

        private static boolean isLetter(int sign) {
            return sign >= 'a' && sign <= 'z';
        }

        private static boolean isDigit(int sign) {
            return sign >= '0' && sign <= '9';
        }

        private void readWord() {
            int letters = 0;
            for (; at < end && isLetter(tape[at]); at++) {
                if (at - place < LETTERS) {
                    letters |= tape[at] - 'a' + 1 << 5 * (LETTERS - 1 - (at - place));
                }
            }
            value = letters;
            token = at - place > LETTERS ? BAD : wordOf(letters);
        }

        private int wordOf(int letters) {
            for (int word = 0; word < WORD_COUNT; word++) {
                if (words[word] == letters) {
                    return FIRST_WORD + word;
                }
            }
            return OWN_WORD;
        }

        private void readNumber() {
            token = NUMBER;
            for (; at < end && isDigit(tape[at]); at++) {
                // What is beyond all bounds stays so, however many digits follow.
                value = value > MOST_NUMBER ? value : value * 10 + tape[at] - '0';
            }
        }

        private void readSign() {
            int sign = tape[at];
            at++;
            int next = at < end ? tape[at] : 0;
            switch (sign) {
                case ';':
                    token = SEMICOLON;
                    break;
                case '(':
                    token = OPENING;
                    break;
                case ')':
                    token = CLOSING;
                    break;
                case '+':
                    token = PLUS;
                    break;
                case '-':
                    token = MINUS;
                    break;
                case '*':
                    token = TIMES;
                    break;
                case '/':
                    token = OVER;
                    break;
                case '=':
                    token = EQUAL;
                    break;
                case '<':
                    token = next == '=' ? LESS_EQUAL : next == '>' ? UNEQUAL : LESS;
                    break;
                case '>':
                    token = next == '=' ? MORE_EQUAL : MORE;
                    break;
                default:
                    token = BAD;
                    break;
            }
            if (token == LESS_EQUAL || token == UNEQUAL || token == MORE_EQUAL) {
                at++;
            }
        }
    }

    /** The council on a day: now, in an image, or as it would be. */
    private static final class State {
        private int day;
        private int damp;
        private int purse = PURSE_UNTOLD;
        private int paid;
        private int touched;
        private int cracked;
        private int absent = NONE;
        private boolean rusts = true;
        private final int[] pitch = new int[MAX_FORKS];
        private final int[] width = new int[MAX_FORKS];
        private final int[] strikeDay = new int[MAX_MOTIONS];
        private final int[] verdict = new int[MAX_MOTIONS];
        private final int[] heard = new int[MAX_MOTIONS];
        private final int[] hums = new int[MAX_FORKS];

        void begin(Told told) {
            day = 0;
            damp = told.wetOn(0);
            purse = told.purse;
            paid = 0;
            touched = 0;
            cracked = told.cracked;
            absent = NONE;
            rusts = true;
            System.arraycopy(told.pitch, 0, pitch, 0, MAX_FORKS);
            System.arraycopy(told.width, 0, width, 0, MAX_FORKS);
            System.arraycopy(told.day, 0, strikeDay, 0, MAX_MOTIONS);
            Arrays.fill(verdict, NONE);
            Arrays.fill(heard, NONE);
        }

        void copyFrom(State other) {
            day = other.day;
            damp = other.damp;
            purse = other.purse;
            paid = other.paid;
            touched = other.touched;
            cracked = other.cracked;
            absent = other.absent;
            rusts = other.rusts;
            System.arraycopy(other.pitch, 0, pitch, 0, MAX_FORKS);
            System.arraycopy(other.width, 0, width, 0, MAX_FORKS);
            System.arraycopy(other.strikeDay, 0, strikeDay, 0, MAX_MOTIONS);
            System.arraycopy(other.verdict, 0, verdict, 0, MAX_MOTIONS);
            System.arraycopy(other.heard, 0, heard, 0, MAX_MOTIONS);
        }

        void filed(int fork, int by, int price) {
            pitch[fork] += by;
            purse -= price;
            paid += price;
        }

        private static int beatsOf(int sound, int note) {
            int nearest = Math.min(Math.abs(sound - note), Math.abs(2 * sound - note));
            return Math.min(nearest, Math.abs(sound - 2 * note));
        }

        private int soundOf(int fork) {
            return Math.max(1, pitch[fork] - damp);
        }

        int beating(int fork, int note) {
            return beatsOf(soundOf(fork), note);
        }

        boolean wouldBeat(int fork, int by, int note) {
            int filed = pitch[fork] + by;
            return isNote(filed) && beatsOf(Math.max(1, filed - damp), note) <= width[fork];
        }

        long humLaw(Told told, int fork, int note) {
            if (!told.laws.has(RULE_HUM)) {
                return ERROR;
            }
            int sound = soundOf(fork);
            told.laws.name(sound, note, width[fork], told.loud[fork], beatsOf(sound, note), damp, day);
            return told.laws.valueOf(RULE_HUM);
        }

        long rustLaw(Told told, int fork) {
            if (!told.laws.has(RULE_RUST)) {
                return ERROR;
            }
            told.laws.name(soundOf(fork), 0, width[fork], told.loud[fork], 0, damp, day);
            return told.laws.valueOf(RULE_RUST);
        }

        long passLaw(Told told, int note, int sum) {
            if (!told.laws.has(RULE_PASS)) {
                return ERROR;
            }
            told.laws.name(0, note, 0, sum, 0, damp, day);
            return told.laws.valueOf(RULE_PASS);
        }

        int humOf(Told told, int fork, int note) {
            if (fork == absent || bitOf(touched, fork) == 1) {
                return 0;
            }
            long value = humLaw(told, fork, note);
            if (value != ERROR) {
                return within(value, 0, MOST_HUM);
            }
            boolean hears = bitOf(cracked, fork) == 1 || beating(fork, note) <= width[fork];
            return hears ? told.loud[fork] : 0;
        }

        int humOfAll(Told told, int note) {
            int sum = 0;
            for (int fork = 0; fork < told.forks; fork++) {
                sum += humOf(told, fork, note);
            }
            return sum;
        }

        int agreed(Told told, int note) {
            int agreed = 0;
            for (int fork = 0; fork < told.forks; fork++) {
                if (humOf(told, fork, note) > 0) {
                    agreed++;
                }
            }
            return agreed;
        }

        boolean passes(Told told, int note, int sum) {
            long value = passLaw(told, note, sum);
            return value == ERROR ? sum >= told.table : value != 0;
        }

        boolean carries(Told told, int note) {
            return passes(told, note, humOfAll(told, note));
        }

        // Sets of forks are many, so what each one hums is worked out once for all of them.
        void listen(Told told, int note) {
            for (int fork = 0; fork < told.forks; fork++) {
                hums[fork] = humOf(told, fork, note);
            }
        }

        int listenedTo(int set, int forks) {
            int sum = 0;
            for (int fork = 0; fork < forks && fork < MAX_FORKS; fork++) {
                if (bitOf(set, fork) == 1) {
                    sum += hums[fork];
                }
            }
            return sum;
        }

        void passDays(Told told, int n) {
            for (int i = 0; i < n; i++) {
                passDay(told);
                damp = told.wetOn(day);
            }
        }

        void passDryDays(Told told, int n) {
            for (int i = 0; i < n; i++) {
                damp = 0;
                passDay(told);
            }
        }

        /** Answers the last number drawn, from which the next draw goes on. */
        int passDaysByChance(Told told, int n, int last) {
            int drawn = last;
            for (int i = 0; i < n; i++) {
                drawn = drawn * 1103515245 + 12345 & Integer.MAX_VALUE;
                damp = drawn / 65536 % 10;
                passDay(told);
            }
            return drawn;
        }

        void passDay(Told told) {
            for (int motion = 0; motion < told.motions; motion++) {
                if (strikeDay[motion] == day && verdict[motion] == NONE) {
                    heard[motion] = humOfAll(told, told.note[motion]);
                    verdict[motion] = passes(told, told.note[motion], heard[motion]) ? 1 : 0;
                }
            }
            for (int fork = 0; fork < told.forks && rusts; fork++) {
                pitch[fork] = Math.max(LEAST_PITCH, pitch[fork] - rustOf(told, fork));
            }
            touched = 0;
            day++;
        }

        private int rustOf(Told told, int fork) {
            long value = rustLaw(told, fork);
            return value == ERROR ? told.rusty : within(value, 0, 9);
        }

        int verdicts(Told told, int which) {
            int found = 0;
            for (int motion = 0; motion < told.motions; motion++) {
                if (verdict[motion] == which) {
                    found++;
                }
            }
            return found;
        }

        int heardInSum(Told told) {
            int sum = 0;
            for (int motion = 0; motion < told.motions; motion++) {
                if (verdict[motion] != NONE) {
                    sum += heard[motion];
                }
            }
            return sum;
        }
    }

    /** What was done by call since the day began, the latest last. */
    private static final class Deeds {
        private final int[] kind = new int[MAX_DEEDS];
        private final int[] which = new int[MAX_DEEDS];
        private final int[] amount = new int[MAX_DEEDS];
        private int size;

        void add(int newKind, int newWhich, int newAmount) {
            if (size >= MAX_DEEDS) {
                dropOldest();
            }
            kind[size] = newKind;
            which[size] = newWhich;
            amount[size] = newAmount;
            size++;
        }

        private void dropOldest() {
            size = MAX_DEEDS - 1;
            System.arraycopy(kind, 1, kind, 0, size);
            System.arraycopy(which, 1, which, 0, size);
            System.arraycopy(amount, 1, amount, 0, size);
        }
    }

    /** What the clerk noted, and by how many of these notes one knows. */
    private static final class Minutes {
        private static final int STRIKES = 2;

        private final int[] says = new int[MAX_MINUTES];
        private final int[] about = new int[MAX_MINUTES];
        private int size;
        private int knownBy = NONE;
        private int struckOut;

        void forget() {
            size = 0;
            knownBy = NONE;
        }

        int add(int newSays, int newAbout) {
            if (size >= MAX_MINUTES) {
                return NONE;
            }
            says[size] = newSays;
            about[size] = newAbout;
            size++;
            return size - 1;
        }

        int reach() {
            return knownBy == NONE ? size : knownBy;
        }

        // One that strikes is always behind what it strikes, so from the last one on
        // it is settled whether it counts before it is asked.
        void sift() {
            struckOut = 0;
            for (int i = reach() - 1; i >= 0; i--) {
                if (says[i] == STRIKES && bitOf(struckOut, i) == 0) {
                    struckOut |= 1 << about[i];
                }
            }
        }

        private boolean tells(int i) {
            return says[i] != STRIKES && bitOf(struckOut, i) == 0;
        }

        int daysToHear(Told told) {
            int days = 0;
            for (int i = 0; i < reach(); i++) {
                if (tells(i)) {
                    days = Math.max(days, told.day[about[i]] + 1);
                }
            }
            return days;
        }

        boolean agreeWith(State state) {
            for (int i = 0; i < reach(); i++) {
                if (tells(i) && state.verdict[about[i]] != says[i]) {
                    return false;
                }
            }
            return true;
        }
    }

    /** The cheapest filing by which a note is carried. */
    private static final class Bribe {
        private static final int BRIBED = 4;
        private static final int STEPS = 9;
        private static final int MIDDLE = 4;
        private static final int UNKNOWN = 0;

        private final int[] hums = new int[BRIBED * STEPS];
        private final int[] verdicts = new int[MAX_FORKS * MOST_HUM + 1];
        private final int[] filings = new int[BRIBED];
        private int forks;
        private int others;
        private int pence = NONE;

        void seek(Told told, State trial, int note) {
            forks = Math.min(BRIBED, told.forks);
            pence = NONE;
            Arrays.fill(verdicts, UNKNOWN);
            listen(told, trial, note);
            int choices = 1;
            for (int fork = 0; fork < forks; fork++) {
                choices *= STEPS;
            }
            int chosen = 0;
            for (int choice = 0; choice < choices; choice++) {
                int cost = costOf(choice, told.price);
                if (cost != NONE && (pence == NONE || cost < pence) && carriedBy(choice, told, trial, note)) {
                    pence = cost;
                    chosen = choice;
                }
            }
            settle(chosen);
        }

        int filingOf(int fork) {
            return fork >= 0 && fork < BRIBED ? filings[fork] : NONE;
        }

        // A filing that leads out of the pitches is marked by a hum of NONE.
        private void listen(Told told, State trial, int note) {
            others = 0;
            for (int fork = forks; fork < told.forks; fork++) {
                others += trial.humOf(told, fork, note);
            }
            for (int fork = 0; fork < forks; fork++) {
                int pitch = trial.pitch[fork];
                for (int step = 0; step < STEPS; step++) {
                    trial.pitch[fork] = pitch + step - MIDDLE;
                    boolean allowed = isNote(trial.pitch[fork]);
                    hums[fork * STEPS + step] = allowed ? trial.humOf(told, fork, note) : NONE;
                }
                trial.pitch[fork] = pitch;
            }
        }

        // The first fork's step is the highest digit, so choices come in the order that is asked for.
        private int costOf(int choice, int price) {
            int steps = 0;
            int left = choice;
            for (int fork = forks - 1; fork >= 0; fork--) {
                int step = left % STEPS;
                left /= STEPS;
                if (hums[fork * STEPS + step] == NONE) {
                    return NONE;
                }
                steps += Math.abs(step - MIDDLE);
            }
            return steps * price;
        }

        // Many choices come to the same sum, and the law of pass hears nothing else of them.
        private boolean carriedBy(int choice, Told told, State trial, int note) {
            int sum = others;
            int left = choice;
            for (int fork = forks - 1; fork >= 0; fork--) {
                sum += hums[fork * STEPS + left % STEPS];
                left /= STEPS;
            }
            if (sum < 0 || sum >= verdicts.length) {
                return trial.passes(told, note, sum);
            }
            if (verdicts[sum] == UNKNOWN) {
                verdicts[sum] = trial.passes(told, note, sum) ? 1 : 2;
            }
            return verdicts[sum] == 1;
        }

        private void settle(int choice) {
            int left = choice;
            for (int fork = forks - 1; fork >= 0; fork--) {
                filings[fork] = left % STEPS - MIDDLE;
                left /= STEPS;
            }
        }
    }

    /** Two forks who file against one another, and where both rest. */
    private static final class Duel {
        private static final int STEPS = 5;
        private static final int MIDDLE = 2;
        private static final int GAIN = 20;

        private final boolean[] carried = new boolean[STEPS * STEPS];
        private final int[] codes = new int[STEPS * STEPS];
        private int size;

        void settle(Told told, State trial, int one, int other, int note) {
            int pitchOfOne = trial.pitch[one];
            int pitchOfOther = trial.pitch[other];
            for (int i = 0; i < STEPS; i++) {
                trial.pitch[one] = within(pitchOfOne + i - MIDDLE, LEAST_PITCH, MOST_PITCH);
                for (int j = 0; j < STEPS; j++) {
                    trial.pitch[other] = within(pitchOfOther + j - MIDDLE, LEAST_PITCH, MOST_PITCH);
                    carried[i * STEPS + j] = trial.carries(told, note);
                }
            }
            size = 0;
            for (int i = 0; i < STEPS; i++) {
                for (int j = 0; j < STEPS; j++) {
                    if (isRest(i, j, told.price)) {
                        codes[size] = 10 * i + j;
                        size++;
                    }
                }
            }
        }

        private boolean isRest(int i, int j, int price) {
            int firstHas = firstHas(i, j, price);
            int secondHas = secondHas(i, j, price);
            for (int k = 0; k < STEPS; k++) {
                if (firstHas(k, j, price) > firstHas || secondHas(i, k, price) > secondHas) {
                    return false;
                }
            }
            return true;
        }

        private int firstHas(int i, int j, int price) {
            return (carried[i * STEPS + j] ? GAIN : 0) - price * Math.abs(i - MIDDLE);
        }

        private int secondHas(int i, int j, int price) {
            return (carried[i * STEPS + j] ? 0 : GAIN) - price * Math.abs(j - MIDDLE);
        }
    }

    /** The days for the next motions by which most are carried. */
    private static final class Order {
        private static final int ORDERED = 4;

        private final int[] motions = new int[ORDERED];
        private final int[] days = new int[ORDERED];
        private int size;
        private int carried;

        // No motion has a say in what becomes of another, so each one may take
        // the first day on which it is carried, or the very first if there is none.
        void seek(Told told, State trial, int n) {
            size = 0;
            carried = 0;
            for (int motion = 0; motion < told.motions && size < ORDERED; motion++) {
                if (trial.verdict[motion] == NONE) {
                    motions[size] = motion;
                    days[size] = NONE;
                    trial.strikeDay[motion] = NONE;
                    size++;
                }
            }
            for (int day = 0; day < n; day++) {
                for (int i = 0; i < size; i++) {
                    if (days[i] == NONE && trial.carries(told, told.note[motions[i]])) {
                        days[i] = day;
                        carried++;
                    }
                }
                trial.passDay(told);
                trial.damp = told.wetOn(trial.day);
            }
        }

        int dayOf(int i) {
            return i >= 0 && i < size ? Math.max(0, days[i]) : NONE;
        }
    }
}

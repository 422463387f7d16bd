import java.util.NoSuchElementException;

/** A cloister of sixteen flags round a lawn, as ../shared/DOC.md tells it; words in capitals there are names here. */
public final class SeasonWalks {
    public static final int NONE = -1;

    private static final int FLAGS = 16;
    private static final int WALKS = 4;
    private static final int MONTHS = 12;
    private static final int MOODS = 5;
    private static final int OWN_MOOD = 4;
    private static final int HOURS_A_DAY = 24;
    private static final int HOURS_AN_OFFICE = 3;
    private static final int SUMMER = 1;
    private static final int WINTER = 3;

    private static final int MOST_MONKS = 7;
    private static final int MONK_SETS = 128;
    private static final int MOST_PACE = 8;
    private static final int MOST_STRIDE = 15;
    private static final int MOST_GRASS = 20;
    private static final int MOST_FICKLE = 100;
    private static final int MOST_STORE = 999;
    private static final int MOST_LATE = 999;
    private static final int MOST_ROUNDS = 999;
    private static final int MOST_HUNGER = 99;
    private static final int MOST_DAY = 9999;
    private static final int MOST_FILL = 99;
    private static final int MOST_AHEAD = 72;
    private static final int MOST_OFFICES = 9;
    private static final int OFFICES_TOLD = 8;
    private static final int MOST_ODDS = 6;
    private static final int MOST_TEXTS = 12;
    private static final int MOST_ACTS = 12;
    private static final int MOST_BYTES = 400;
    private static final int MOST_NUMBER = 999;
    // More than any way, rank or count of late ones comes to.
    private static final int MUCH = 1000000;

    // What is known of a monk, in the order in which monk(monk, what) asks for it.
    private static final int FLAG = 0;
    private static final int PACE = 1;
    private static final int STALL = 2;
    private static final int LIKES = 3;
    private static final int LOST = 4;
    private static final int LATE = 5;
    private static final int HUNGER = 6;
    private static final int ROUNDS = 7;
    private static final int KNOWN = 8;

    private final Tape tape = new Tape();
    private final Cloister now = new Cloister();
    private final Cloister draft = new Cloister();
    private final Cloister kept = new Cloister();
    private final Law theLaw = new Law();
    private final Law draftLaw = new Law();
    private final Law keptLaw = new Law();
    private final Cloister[] acts = new Cloister[MOST_ACTS];
    private final Foresight foresight = new Foresight();
    private final Stalls stalls = new Stalls();
    private final Riddle riddle = new Riddle();
    private final Brothers brothers = new Brothers();
    private final Roads roads = new Roads();
    private boolean imageKept;
    private int firstAct;
    private int actsKept;
    private int wrongByte = NONE;

    /** A cloister of nobody. */
    public SeasonWalks() {
        for (int i = 0; i < acts.length; i++) {
            acts[i] = new Cloister();
        }
    }

    /** Puts twenty bytes behind the tape: how many it has, or NONE if it has no room. */
    public int feed(int a, int b, int c, int d, int e) {
        if (tape.size + 20 > MOST_BYTES) {
            return NONE;
        }
        tape.addNumber(a);
        tape.addNumber(b);
        tape.addNumber(c);
        tape.addNumber(d);
        tape.addNumber(e);
        return tape.size;
    }

    /** Leaves the tape its first n bytes, if it has as many. */
    public boolean end(int n) {
        if (n < 0 || n > tape.size) {
            return false;
        }
        tape.size = n;
        return true;
    }

    /** Reads the tape as a text of the cloister: how many there are then. */
    public int cloister() throws IllegalArgumentException, UnsupportedOperationException {
        draft.copyFrom(now);
        wrongByte = CloisterText.readInto(tape, draft);
        tape.useUp();
        if (wrongByte != NONE) {
            throw new IllegalArgumentException();
        }
        if (now.texts >= MOST_TEXTS) {
            throw new UnsupportedOperationException();
        }
        draft.texts++;
        now.copyFrom(draft);
        actsKept = 0;
        return now.texts;
    }

    /** Reads the tape as the law, in place of the one before: how many lines it has. */
    public int law() throws IllegalArgumentException {
        wrongByte = LawText.readInto(tape, draftLaw);
        tape.useUp();
        if (wrongByte != NONE) {
            throw new IllegalArgumentException();
        }
        theLaw.copyFrom(draftLaw);
        actsKept = 0;
        return theLaw.lines;
    }

    /** The first wrong byte of the latest text, or NONE. */
    public int fault() {
        return wrongByte;
    }

    /** What is known of a monk, his stride now (8) and his lag (9). */
    public int monk(int monk, int what) throws IndexOutOfBoundsException, NoSuchElementException {
        needMonk(monk);
        if (what < 0 || what > KNOWN + 1) {
            throw new NoSuchElementException();
        }
        if (what == KNOWN) {
            return theLaw.strideOf(now, monk);
        }
        return what < KNOWN ? now.of(what, monk) : now.lagOf(monk);
    }

    /** The store of a walk. */
    public int store(int walk) throws IndexOutOfBoundsException {
        needWalk(walk);
        return now.storeOf(walk);
    }

    /** The season of a flag. */
    public int season(int flag) throws IndexOutOfBoundsException {
        needFlag(flag);
        return now.seasonOf(flag);
    }

    /** So many hours pass: how often somebody was late in these. */
    public int hours(int n) throws IllegalArgumentException {
        if (n < 1 || n > MOST_AHEAD) {
            throw new IllegalArgumentException();
        }
        remember();
        int late = 0;
        for (int i = 0; i < n; i++) {
            late += Integer.bitCount(now.passHour(theLaw, true));
        }
        return late;
    }

    /** A monk takes the short way over the grass: the flag where he is then. */
    public int cross(int monk) throws IndexOutOfBoundsException, IllegalStateException {
        needMonk(monk);
        if (now.isLost(monk)) {
            throw new IllegalStateException();
        }
        remember();
        now.put(FLAG, monk, (now.of(FLAG, monk) + FLAGS / 2) % FLAGS);
        now.put(LOST, monk, now.grass);
        return now.of(FLAG, monk);
    }

    /** Puts the bell to a flag: where it was. */
    public int bell(int flag) throws IndexOutOfBoundsException {
        needFlag(flag);
        remember();
        int before = now.bell;
        now.bell = flag;
        return before;
    }

    /** Tells the mood: what it was. */
    public int mood(int n) throws IllegalArgumentException {
        needWithin(n, MOODS - 1);
        remember();
        int before = now.mood;
        now.mood = n;
        return before;
    }

    /** Two monks change stalls: that of the first one then. */
    public int change(int monk, int other) throws IndexOutOfBoundsException, IllegalArgumentException {
        needTwo(monk, other);
        remember();
        int before = now.of(STALL, monk);
        now.put(STALL, monk, now.of(STALL, other));
        now.put(STALL, other, before);
        return now.of(STALL, monk);
    }

    /** Tells the pace of a monk: what it was. */
    public int pace(int monk, int n) throws IndexOutOfBoundsException, IllegalArgumentException {
        needMonk(monk);
        needWithin(n, MOST_PACE);
        remember();
        int before = now.of(PACE, monk);
        now.put(PACE, monk, n);
        return before;
    }

    /** Fills a store by so much more: what it has then. */
    public int fill(int walk, int n) throws IndexOutOfBoundsException, IllegalArgumentException {
        needWalk(walk);
        if (n < 1 || n > MOST_FILL) {
            throw new IllegalArgumentException();
        }
        remember();
        now.addStore(walk, n);
        return now.storeOf(walk);
    }

    /** Finds a lost monk: for how many hours he was lost yet. */
    public int find(int monk) throws IndexOutOfBoundsException, IllegalStateException {
        needMonk(monk);
        if (!now.isLost(monk)) {
            throw new IllegalStateException();
        }
        remember();
        int before = now.of(LOST, monk);
        now.put(LOST, monk, 0);
        return before;
    }

    /** Who is in choir, as bits. */
    public int choir() {
        int bits = 0;
        for (int m = 0; m < now.monks; m++) {
            if (now.isAt(m, now.bell)) {
                bits |= 1 << m;
            }
        }
        return bits;
    }

    /** In how many hours a monk is first at a flag, or NONE. */
    public int when(int monk, int flag) throws IndexOutOfBoundsException {
        needMonk(monk);
        needFlag(flag);
        return foresight.firstAt(now, theLaw, monk, flag);
    }

    /** In how many hours two monks are first at one flag, or NONE. */
    public int meet(int monk, int other) throws IndexOutOfBoundsException, IllegalArgumentException {
        needTwo(monk, other);
        return foresight.firstTogether(now, theLaw, monk, other);
    }

    /** How often monks are late in the next n offices. */
    public int lates(int n) throws IllegalArgumentException {
        needWithin(n, MOST_OFFICES);
        foresight.look(now);
        return foresight.passOffices(theLaw, n);
    }

    /** Who is late the most in the next eight offices, or NONE. */
    public int tardy() {
        foresight.look(now);
        foresight.passOffices(theLaw, OFFICES_TOLD);
        return foresight.mostLate();
    }

    /** From which flag the bell should ring. */
    public int ring() {
        return foresight.bestChoice(now, theLaw, false);
    }

    /** The mood by which the fewest are late. */
    public int humour() {
        return foresight.bestChoice(now, theLaw, true);
    }

    /** In how many hours somebody is first hungry, or NONE. */
    public int starves() {
        return foresight.firstHunger(now, theLaw);
    }

    /** How far two flags are, over the grass or not. */
    public int far(int flag, int other) throws IndexOutOfBoundsException {
        needFlag(flag);
        needFlag(other);
        return now.farOf(flag, other);
    }

    /** The least way by the flags on the tape, or (next) the first flag of the best order. */
    public int road(int flag, boolean next) throws IndexOutOfBoundsException, IllegalArgumentException {
        boolean right = roads.readFlags(tape);
        tape.useUp();
        needFlag(flag);
        if (!right) {
            throw new IllegalArgumentException();
        }
        return next ? roads.firstFlag(now, flag) : roads.leastWay(now, flag);
    }

    /** How many can be seated by their months (NONE), or where a monk is then. */
    public int seats(int monk) throws IndexOutOfBoundsException {
        if (monk == NONE) {
            return stalls.mostSeated(now);
        }
        needMonk(monk);
        return stalls.seatOf(now, monk);
    }

    /** The fewest monks who like fewer months than they are, as bits. */
    public int shown() {
        return stalls.fewestWithTooFew(now);
    }

    /** Who likes a month, as bits. */
    public int serves(int month) throws IndexOutOfBoundsException {
        if (month < 0 || month >= MONTHS) {
            throw new IndexOutOfBoundsException();
        }
        int bits = 0;
        for (int m = 0; m < now.monks; m++) {
            if (now.doesLike(m, month)) {
                bits |= 1 << m;
            }
        }
        return bits;
    }

    /** Whose stall a monk gets by trading, or (many) how many are in his ring. */
    public int trade(int monk, boolean many) throws IndexOutOfBoundsException {
        needMonk(monk);
        stalls.tradeAll(now);
        return many ? stalls.ringSizeOf(monk) : stalls.giverOf(monk);
    }

    /** Who likes his own stall, as bits. */
    public int content() {
        int bits = 0;
        for (int m = 0; m < now.monks; m++) {
            if (now.doesLike(m, now.of(STALL, m))) {
                bits |= 1 << m;
            }
        }
        return bits;
    }

    /** How many ways of walking fit what was seen, or (where) from which flags, as bits. */
    public int seen(boolean where) throws IllegalArgumentException {
        needRows(riddle.readWalk(tape, now.bell));
        return where ? riddle.beginnings() : riddle.fitting;
    }

    /** For which hour to ask next of one seen, or NONE. */
    public int ask() throws IllegalArgumentException {
        needRows(riddle.readWalk(tape, now.bell));
        return riddle.bestHour();
    }

    /** How many rules of the mood fit, or (least) the first of them. */
    public int rule(boolean least) throws IllegalArgumentException {
        needRows(riddle.readRule(tape));
        return least ? riddle.firstFitting() : riddle.fitting;
    }

    /** Which hour tells most of the rule, or NONE. */
    public int tells() throws IllegalArgumentException {
        needRows(riddle.readRule(tape));
        return riddle.bestHour();
    }

    /** What a walk has if n more are shared. */
    public int share(int walk, int n) throws IndexOutOfBoundsException, IllegalArgumentException {
        needWalk(walk);
        needWithin(n, MOST_STORE);
        foresight.look(now);
        foresight.then.shareOut(n);
        return foresight.then.storeOf(walk);
    }

    /** For how many hours a store feeds those in its walk, or NONE. */
    public int feeds(int walk) throws IndexOutOfBoundsException {
        needWalk(walk);
        int eaters = 0;
        for (int m = 0; m < now.monks; m++) {
            if (!now.isLost(m) && now.walkOf(m) == walk) {
                eaters++;
            }
        }
        return eaters == 0 ? NONE : now.storeOf(walk) / eaters;
    }

    /** The most months that brothers two by two both like (NONE), or with whom a monk is then. */
    public int pairs(int monk) throws IndexOutOfBoundsException {
        if (monk == NONE) {
            return brothers.mostShared(now);
        }
        needMonk(monk);
        return brothers.partnerOf(now, monk);
    }

    /** The fewest who watch all that are somewhere, as bits, or NONE. */
    public int watch() {
        return brothers.fewestWatching(now);
    }

    /** Whether a set of monks carries the chapter. */
    public boolean chapter(int monks) {
        return brothers.carries(now, monks);
    }

    /** In how many sets a monk is needed to carry the chapter. */
    public int swings(int monk) throws IndexOutOfBoundsException {
        needMonk(monk);
        return brothers.swingsOf(now, monk);
    }

    /** Who swings the most, or NONE. */
    public int elder() {
        return brothers.mostSwinging(now);
    }

    /** At which choices a monk and the gardener both rest, as bits, or NONE. */
    public int rests(int monk) throws IndexOutOfBoundsException {
        needMonk(monk);
        return now.isLost(monk) ? NONE : brothers.restsOf(now, monk);
    }

    /** How likely the mood is drawn in k of n hours at least, in ten thousandths. */
    public int odds(int n, int k) throws IllegalArgumentException {
        needWithin(n, MOST_ODDS);
        needWithin(k, MOST_ODDS);
        return foresight.oddsOf(now, n, k);
    }

    /** The walks without monks, as bits. */
    public int empty() {
        int bits = (1 << WALKS) - 1;
        for (int m = 0; m < now.monks; m++) {
            bits &= ~(1 << now.walkOf(m));
        }
        return bits;
    }

    /** The walk of the most monks. */
    public int throng() {
        int best = 0;
        for (int walk = 1; walk < WALKS; walk++) {
            if (now.monksIn(walk) > now.monksIn(best)) {
                best = walk;
            }
        }
        return best;
    }

    /** Who is lost, as bits. */
    public int gone() {
        int bits = 0;
        for (int m = 0; m < now.monks; m++) {
            if (now.isLost(m)) {
                bits |= 1 << m;
            }
        }
        return bits;
    }

    /** Who has been round so often at least, as bits. */
    public int round(int n) throws IllegalArgumentException {
        needWithin(n, MOST_ROUNDS);
        int bits = 0;
        for (int m = 0; m < now.monks; m++) {
            if (now.of(ROUNDS, m) >= n) {
                bits |= 1 << m;
            }
        }
        return bits;
    }

    /** Who is the hungriest, or NONE. */
    public int hungriest() {
        int best = NONE;
        int most = 0;
        for (int m = 0; m < now.monks; m++) {
            if (now.of(HUNGER, m) > most) {
                most = now.of(HUNGER, m);
                best = m;
            }
        }
        return best;
    }

    /** How many pairs of monks are of like pace and flag. */
    public int alike() {
        int found = 0;
        for (int m = 0; m < now.monks; m++) {
            for (int other = 0; other < m; other++) {
                if (now.of(PACE, m) == now.of(PACE, other) && now.of(FLAG, m) == now.of(FLAG, other)) {
                    found++;
                }
            }
        }
        return found;
    }

    /** The flag (0), lateness (1) or hunger (2) of a monk in n hours without draws. */
    public int ahead(int monk, int n, int what)
            throws IndexOutOfBoundsException, IllegalArgumentException, NoSuchElementException {
        needMonk(monk);
        needWithin(n, MOST_AHEAD);
        if (what < 0 || what > 2) {
            throw new NoSuchElementException();
        }
        foresight.look(now);
        foresight.passHours(theLaw, n, false);
        int row = what == 0 ? FLAG : what == 1 ? LATE : HUNGER;
        return foresight.then.of(row, monk);
    }

    /** The lateness of all, or the mood, in n hours with draws. */
    public int trial(int n, boolean mood) throws IllegalArgumentException {
        needWithin(n, MOST_AHEAD);
        foresight.look(now);
        foresight.passHours(theLaw, n, true);
        return mood ? foresight.then.mood : foresight.then.sumOf(LATE);
    }

    /** The least or the greatest lateness of all in n hours, from six seeds. */
    public int span(int n, boolean most) throws IllegalArgumentException {
        needWithin(n, MOST_AHEAD);
        return foresight.spanOf(now, theLaw, n, most);
    }

    /** How many rows of the log are of a monk, or (flag) the flag of the latest of them. */
    public int led(int monk, boolean flag) throws IndexOutOfBoundsException {
        needMonk(monk);
        return flag ? now.log.latestFlagOf(monk) : now.log.rowsOf(monk);
    }

    /** What a row of the log tells, so many rows ago, or NONE. */
    public int log(int ago, int what) throws NoSuchElementException {
        if (what < 0 || what > Log.WHERE) {
            throw new NoSuchElementException();
        }
        return now.log.told(ago, what);
    }

    /** Tells the seed of the draws: what it was. */
    public int seed(int n) {
        int before = now.seed;
        now.seed = n;
        return before;
    }

    /** Undoes the latest act that is remembered: whether there was one. */
    public boolean undo() {
        if (actsKept <= 0) {
            return false;
        }
        actsKept--;
        Cloister before = actAt(actsKept);
        if (before != null) {
            now.copyFrom(before);
        }
        return true;
    }

    /** Keeps the image. */
    public void image() {
        kept.copyFrom(now);
        keptLaw.copyFrom(theLaw);
        imageKept = true;
    }

    /** Goes back to the image, if one was kept. */
    public boolean back() {
        if (!imageKept) {
            return false;
        }
        now.copyFrom(kept);
        theLaw.copyFrom(keptLaw);
        actsKept = 0;
        return true;
    }

    /** Counts what there is, or NONE. */
    public int count(int what) {
        switch (what) {
            case 0: return now.monks;
            case 1: return now.texts;
            case 2: return theLaw.lines;
            case 3: return now.hour;
            case 4: return now.day;
            case 5: return now.bell;
            case 6: return now.mood;
            case 7: return now.fickle;
            case 8: return now.grass;
            case 9: return now.storeOfAll();
            case 10: return now.sumOf(LATE);
            case 11: return now.log.size;
            case 12: return actsKept;
            default: return NONE;
        }
    }

    private void needMonk(int monk) {
        if (monk < 0 || monk >= now.monks) {
            throw new IndexOutOfBoundsException();
        }
    }

    private void needTwo(int monk, int other) {
        needMonk(monk);
        needMonk(other);
        if (monk == other) {
            throw new IllegalArgumentException();
        }
    }

    private static void needFlag(int flag) {
        if (flag < 0 || flag >= FLAGS) {
            throw new IndexOutOfBoundsException();
        }
    }

    private static void needWalk(int walk) {
        if (walk < 0 || walk >= WALKS) {
            throw new IndexOutOfBoundsException();
        }
    }

    private static void needWithin(int n, int most) {
        if (n < 0 || n > most) {
            throw new IllegalArgumentException();
        }
    }

    private void needRows(boolean right) {
        tape.useUp();
        if (!right) {
            throw new IllegalArgumentException();
        }
    }

    /** Keeps all as it is ahead of an act; a thirteenth pushes the first out. */
    private void remember() {
        if (actsKept >= MOST_ACTS) {
            firstAct = (firstAct + 1) % MOST_ACTS;
            actsKept = MOST_ACTS - 1;
        }
        Cloister slot = actAt(actsKept);
        if (slot != null) {
            slot.copyFrom(now);
        }
        actsKept++;
    }

    private Cloister actAt(int place) {
        int slot = Math.floorMod(firstAct + place, MOST_ACTS);
        return slot < acts.length ? acts[slot] : null;
    }

    private static void copyRow(int[] from, int[] to) {
        for (int i = 0; i < from.length && i < to.length; i++) {
            to[i] = from[i];
        }
    }

    private static boolean holdsBit(int bits, int bit) {
        return (bits >> bit & 1) != 0;
    }

    /** Steps from one flag to another this way or that way, never over the grass. */
    private static int stepsApart(int flag, int other) {
        int on = Math.floorMod(other - flag, FLAGS);
        return Math.min(on, FLAGS - on);
    }

    /** The bytes that were fed, and the thing among them that is read just now. */
    private static final class Tape {
        private static final int END = 0;
        private static final int BLANK = 1;
        private static final int WORD = 2;
        private static final int NUMBER = 3;
        private static final int SIGN = 4;
        private static final int MOST_DIGITS = 3;

        private final int[] bytes = new int[MOST_BYTES];
        private final int[] kinds = new int[MOST_BYTES];
        private int size;
        private int begin;
        private int behind;
        private int kind;
        private int sign;
        private int wrong = NONE;

        private void addNumber(int number) {
            for (int shift = 24; shift >= 0; shift -= 8) {
                if (size >= 0 && size < MOST_BYTES) {
                    bytes[size] = number >> shift & 255;
                    kinds[size] = kindOf(bytes[size]);
                    size++;
                }
            }
        }

        private static int kindOf(int letter) {
            if (letter >= 'a' && letter <= 'z') {
                return WORD;
            }
            if (letter >= '0' && letter <= '9') {
                return NUMBER;
            }
            return letter == ' ' ? BLANK : SIGN;
        }

        private void useUp() {
            size = 0;
        }

        private int byteAt(int at) {
            return at >= 0 && at < size && at < MOST_BYTES ? bytes[at] : NONE;
        }

        /** Whether one line more begins here; ahead of the first the reading begins. */
        private boolean startsLine(int lines, int mostLines) {
            if (lines == 0) {
                behind = 0;
                wrong = NONE;
                readNext();
                return !isEnd();
            }
            if (isEnd()) {
                return false;
            }
            expectSign(';');
            if (lines >= mostLines) {
                refuse();
            }
            return isRight();
        }

        /** Steps to the next thing; the end is one, too, and begins at the text's length. */
        private void readNext() {
            begin = behind;
            while (begin >= 0 && begin < size && begin < MOST_BYTES && kinds[begin] == BLANK) {
                begin++;
            }
            behind = begin;
            kind = END;
            sign = NONE;
            if (begin >= 0 && begin < size && begin < MOST_BYTES) {
                kind = kinds[begin];
                sign = kind == SIGN ? bytes[begin] : NONE;
            }
            if (kind == SIGN) {
                behind++;
            } else if (kind != END) {
                while (behind < size && behind < MOST_BYTES && kinds[behind] == kind) {
                    behind++;
                }
            }
        }

        private boolean isEnd() {
            return kind == END;
        }

        private boolean isRight() {
            return wrong == NONE;
        }

        /** Of all that is refused only the first thing counts. */
        private void refuse() {
            if (wrong == NONE) {
                wrong = begin;
            }
        }

        private boolean isWord(String word) {
            if (kind != WORD || word.length() != behind - begin) {
                return false;
            }
            for (int i = 0; i < word.length(); i++) {
                int at = begin + i;
                if (at < 0 || at >= MOST_BYTES || word.charAt(i) != bytes[at]) {
                    return false;
                }
            }
            return true;
        }

        private boolean takeWord(String word) {
            boolean is = isWord(word);
            if (is) {
                readNext();
            }
            return is;
        }

        private void expectWord(String word) {
            if (!takeWord(word)) {
                refuse();
            }
        }

        private boolean isSign(char wanted) {
            return sign == wanted;
        }

        private boolean takeSign(char wanted) {
            boolean is = isSign(wanted);
            if (is) {
                readNext();
            }
            return is;
        }

        private void expectSign(char wanted) {
            if (!takeSign(wanted)) {
                refuse();
            }
        }

        private boolean isNumber() {
            return kind == NUMBER;
        }

        /** The number that stands here, or NONE if none does or it has too many digits. */
        private int numberHere() {
            if (kind != NUMBER || behind - begin > MOST_DIGITS) {
                return NONE;
            }
            int number = 0;
            for (int at = begin; at >= 0 && at < behind && at < MOST_BYTES; at++) {
                number = 10 * number + bytes[at] - '0';
            }
            return number;
        }

        private int takeNumber(int most) {
            int number = numberHere();
            if (number == NONE || number > most) {
                refuse();
                return NONE;
            }
            readNext();
            return number;
        }

        /** Months told by letters, as bits. */
        private int takeMonths() {
            int months = 0;
            if (kind != WORD) {
                refuse();
            }
            for (int at = begin; at < behind; at++) {
                int month = byteAt(at) - 'a';
                if (month < 0 || month >= MONTHS || holdsBit(months, month)) {
                    refuse();
                    return 0;
                }
                months |= 1 << month;
            }
            readNext();
            return months;
        }

        private int takeSeason() {
            int season = NONE;
            if (isWord("spring")) {
                season = 0;
            } else if (isWord("summer")) {
                season = SUMMER;
            } else if (isWord("autumn")) {
                season = 2;
            } else if (isWord("winter")) {
                season = WINTER;
            }
            if (season == NONE) {
                refuse();
            } else {
                readNext();
            }
            return season;
        }

        private int takeMood() {
            return takeWord("own") ? OWN_MOOD : takeSeason();
        }
    }

    /** Reads texts of the cloister; what is read of a wrong one stands in a draft alone. */
    private static final class CloisterText {
        private static final int MOST_LINES = 14;

        /** Reads the tape: the first wrong byte, or NONE. */
        private static int readInto(Tape tape, Cloister draft) {
            for (int lines = 0; lines <= MOST_LINES && tape.startsLine(lines, MOST_LINES); lines++) {
                readLine(tape, draft);
            }
            return tape.wrong;
        }

        private static void readLine(Tape tape, Cloister draft) {
            if (tape.isWord("monk")) {
                readMonk(tape, draft);
            } else if (tape.takeWord("bell")) {
                draft.bell = tape.takeNumber(FLAGS - 1);
            } else if (tape.takeWord("mood")) {
                draft.mood = tape.takeMood();
            } else if (tape.takeWord("fickle")) {
                draft.fickle = tape.takeNumber(MOST_FICKLE);
            } else if (tape.takeWord("grass")) {
                draft.grass = tape.takeNumber(MOST_GRASS);
            } else if (tape.takeWord("store")) {
                int walk = tape.takeSeason();
                draft.putStore(walk, tape.takeNumber(MOST_STORE));
            } else if (tape.takeWord("hour")) {
                draft.hour = tape.takeNumber(HOURS_A_DAY - 1);
            } else if (tape.takeWord("day")) {
                draft.day = tape.takeNumber(MOST_NUMBER);
            } else {
                tape.refuse();
            }
        }

        private static void readMonk(Tape tape, Cloister draft) {
            if (draft.monks >= MOST_MONKS) {
                tape.refuse();
                return;
            }
            tape.expectWord("monk");
            tape.expectWord("at");
            int flag = tape.takeNumber(FLAGS - 1);
            tape.expectWord("stall");
            if (draft.hasStall(tape.numberHere())) {
                tape.refuse();
            }
            int stall = tape.takeNumber(MONTHS - 1);
            int pace = tape.takeWord("pace") ? tape.takeNumber(MOST_PACE) : 2;
            int likes = tape.takeWord("likes") ? tape.takeMonths() : 0;
            draft.addMonk(flag, stall, pace, likes);
        }
    }

    /** Reads texts of the law into the law's steps. */
    private static final class LawText {
        private static final int MOST_DEEP = 6;

        /** Reads the tape: the first wrong byte, or NONE. */
        private static int readInto(Tape tape, Law draft) {
            draft.clear();
            for (int lines = 0; lines <= Law.MOST_LINES && tape.startsLine(lines, Law.MOST_LINES); lines++) {
                readLine(tape, draft);
            }
            return tape.wrong;
        }

        private static void readLine(Tape tape, Law draft) {
            int kind = Law.KEEP;
            int size = 0;
            if (tape.takeWord("slow")) {
                kind = Law.SLOW;
                size = tape.takeNumber(Law.MOST_SIZE);
            } else if (tape.takeWord("haste")) {
                kind = Law.HASTE;
                size = tape.takeNumber(Law.MOST_SIZE);
            } else {
                tape.expectWord("keep");
            }
            if (tape.isRight() && tape.takeWord("if")) {
                readAny(tape, draft, 0);
            }
            draft.addLine(kind, size);
        }

        private static void readAny(Tape tape, Law draft, int deep) {
            for (int i = 0; i < MOST_BYTES && tape.isRight() && (i == 0 || tape.takeWord("or")); i++) {
                for (int k = 0; k < MOST_BYTES && tape.isRight() && (k == 0 || tape.takeWord("and")); k++) {
                    readAtom(tape, draft, deep);
                    if (k > 0) {
                        draft.addStep(Law.AND, 0);
                    }
                }
                if (i > 0) {
                    draft.addStep(Law.OR, 0);
                }
            }
        }

        private static void readAtom(Tape tape, Law draft, int deep) {
            boolean open = tape.isSign('(');
            if (open || tape.isWord("not")) {
                if (deep >= MOST_DEEP) {
                    tape.refuse();
                    return;
                }
                tape.readNext();
                if (open) {
                    readAny(tape, draft, deep + 1);
                    tape.expectSign(')');
                } else {
                    readAtom(tape, draft, deep + 1);
                    draft.addStep(Law.NOT, 0);
                }
            } else if (tape.takeWord("corner")) {
                draft.addStep(Law.CORNER, 0);
            } else if (tape.takeWord("hungry")) {
                draft.addStep(Law.HUNGRY, 0);
            } else {
                readSum(tape, draft);
                boolean less = tape.isSign('<');
                tape.expectSign(less ? '<' : '>');
                draft.addStep(Law.SPLIT, 0);
                readSum(tape, draft);
                draft.addStep(less ? Law.LESS : Law.MORE, 0);
            }
        }

        private static void readSum(Tape tape, Law draft) {
            for (int i = 0; i < MOST_BYTES && tape.isRight() && (i == 0 || tape.takeSign('+')); i++) {
                int part = partHere(tape);
                if (tape.isNumber()) {
                    draft.addStep(Law.NUMBER, tape.takeNumber(MOST_NUMBER));
                } else if (part != NONE) {
                    draft.addStep(Law.PART, part);
                    tape.readNext();
                } else {
                    tape.refuse();
                }
            }
        }

        private static int partHere(Tape tape) {
            if (tape.isWord("monk")) {
                return Law.PART_MONK;
            }
            if (tape.isWord("flag")) {
                return Law.PART_FLAG;
            }
            if (tape.isWord("pace")) {
                return Law.PART_PACE;
            }
            if (tape.isWord("season")) {
                return Law.PART_SEASON;
            }
            if (tape.isWord("late")) {
                return Law.PART_LATE;
            }
            if (tape.isWord("hour")) {
                return Law.PART_HOUR;
            }
            return tape.isWord("stall") ? Law.PART_STALL : NONE;
        }
    }

    /** The law as lines, each with steps that tell whether it holds. */
    private static final class Law {
        private static final int MOST_LINES = 12;
        private static final int MOST_SIZE = 20;
        private static final int SLOW = 0;
        private static final int HASTE = 1;
        private static final int KEEP = 2;

        private static final int NUMBER = 0;
        private static final int PART = 1;
        private static final int SPLIT = 2;
        private static final int LESS = 3;
        private static final int MORE = 4;
        private static final int CORNER = 5;
        private static final int HUNGRY = 6;
        private static final int NOT = 7;
        private static final int AND = 8;
        private static final int OR = 9;

        private static final int PART_MONK = 0;
        private static final int PART_FLAG = 1;
        private static final int PART_PACE = 2;
        private static final int PART_SEASON = 3;
        private static final int PART_LATE = 4;
        private static final int PART_HOUR = 5;
        private static final int PART_STALL = 6;
        private static final int PART_HUNGER = 7;
        private static final int PARTS = 8;

        private final int[] kinds = new int[MOST_LINES];
        private final int[] sizes = new int[MOST_LINES];
        private final int[] ends = new int[MOST_LINES];
        // No text has more steps than bytes: the dearest, "or1<2", has five of each.
        private final int[] steps = new int[MOST_BYTES];
        private final int[] parts = new int[PARTS];
        private int stepsUsed;
        private int lines = NONE;

        private void clear() {
            lines = 0;
            stepsUsed = 0;
        }

        private void copyFrom(Law other) {
            copyRow(other.kinds, kinds);
            copyRow(other.sizes, sizes);
            copyRow(other.ends, ends);
            copyRow(other.steps, steps);
            stepsUsed = other.stepsUsed;
            lines = other.lines;
        }

        /** Puts a step behind those of the line that is added next. */
        private void addStep(int step, int value) {
            if (stepsUsed >= 0 && stepsUsed < steps.length) {
                steps[stepsUsed] = value << 4 | step;
                stepsUsed++;
            }
        }

        private void addLine(int kind, int size) {
            if (lines >= 0 && lines < MOST_LINES) {
                kinds[lines] = kind;
                sizes[lines] = size;
                ends[lines] = stepsUsed;
                lines++;
            }
        }

        /** By how many flags a monk goes on, were he to go now. */
        private int strideOf(Cloister cloister, int monk) {
            int stride = cloister.of(PACE, monk);
            if (lines == NONE) {
                boolean winter = cloister.seasonOf(cloister.of(FLAG, monk)) == WINTER;
                return winter ? Math.max(0, stride - 1) : stride;
            }
            lookAt(cloister, monk);
            int from = 0;
            for (int line = 0; line < lines && line < MOST_LINES; line++) {
                if (holds(from, ends[line])) {
                    if (kinds[line] == KEEP) {
                        return 0;
                    }
                    stride += kinds[line] == HASTE ? sizes[line] : -sizes[line];
                }
                from = ends[line];
            }
            return Math.min(MOST_STRIDE, Math.max(0, stride));
        }

        /** Takes down what conditions ask of a monk, once for all lines. */
        private void lookAt(Cloister cloister, int monk) {
            parts[PART_MONK] = monk;
            parts[PART_FLAG] = cloister.of(FLAG, monk);
            parts[PART_PACE] = cloister.of(PACE, monk);
            parts[PART_SEASON] = cloister.seasonOf(cloister.of(FLAG, monk));
            parts[PART_LATE] = cloister.of(LATE, monk);
            parts[PART_HOUR] = cloister.hour;
            parts[PART_STALL] = cloister.of(STALL, monk);
            parts[PART_HUNGER] = cloister.of(HUNGER, monk);
        }

        /** The lowest bit of truths is the top of a pile; it lies there true for a line without conditions. */
        private boolean holds(int from, int to) {
            int truths = 1;
            int sum = 0;
            int left = 0;
            for (int at = from; at >= 0 && at < to && at < steps.length; at++) {
                int value = steps[at] >> 4;
                switch (steps[at] & 15) {
                    case NUMBER:
                        sum += value;
                        break;
                    case PART:
                        sum += value >= 0 && value < PARTS ? parts[value] : 0;
                        break;
                    case SPLIT:
                        left = sum;
                        sum = 0;
                        break;
                    case LESS:
                        truths = truths << 1 | (left < sum ? 1 : 0);
                        sum = 0;
                        break;
                    case MORE:
                        truths = truths << 1 | (left > sum ? 1 : 0);
                        sum = 0;
                        break;
                    case CORNER:
                        truths = truths << 1 | (parts[PART_FLAG] % 4 == 0 ? 1 : 0);
                        break;
                    case HUNGRY:
                        truths = truths << 1 | (parts[PART_HUNGER] > 0 ? 1 : 0);
                        break;
                    case NOT:
                        truths ^= 1;
                        break;
                    case AND:
                        truths = truths >> 1 & (truths | ~1);
                        break;
                    default:
                        truths = truths >> 1 | truths & 1;
                        break;
                }
            }
            return (truths & 1) != 0;
        }
    }

    /** All of a cloister at one time, but for its law. */
    private static final class Cloister {
        private final int[] known = new int[KNOWN * MOST_MONKS];
        private final int[] stores = {20, 20, 20, 20};
        private final Log log = new Log();
        private int monks;
        private int texts;
        private int hour;
        private int day;
        private int bell;
        private int mood = OWN_MOOD;
        private int fickle;
        private int grass = 4;
        private int seed = 1;

        private void copyFrom(Cloister other) {
            copyRow(other.known, known);
            copyRow(other.stores, stores);
            log.copyFrom(other.log);
            monks = other.monks;
            texts = other.texts;
            hour = other.hour;
            day = other.day;
            bell = other.bell;
            mood = other.mood;
            fickle = other.fickle;
            grass = other.grass;
            seed = other.seed;
        }

        private int of(int what, int monk) {
            int at = what * MOST_MONKS + monk;
            return at >= 0 && at < known.length ? known[at] : 0;
        }

        private void put(int what, int monk, int value) {
            int at = what * MOST_MONKS + monk;
            if (at >= 0 && at < known.length) {
                known[at] = value;
            }
        }

        private int storeOf(int walk) {
            return walk >= 0 && walk < stores.length ? stores[walk] : 0;
        }

        private void putStore(int walk, int value) {
            if (walk >= 0 && walk < stores.length) {
                stores[walk] = value;
            }
        }

        private void addStore(int walk, int more) {
            putStore(walk, Math.min(MOST_STORE, storeOf(walk) + more));
        }

        private int storeOfAll() {
            int sum = 0;
            for (int store : stores) {
                sum += store;
            }
            return sum;
        }

        private void addMonk(int flag, int stall, int pace, int likes) {
            if (monks < MOST_MONKS) {
                put(FLAG, monks, flag);
                put(STALL, monks, stall);
                put(PACE, monks, pace);
                put(LIKES, monks, likes);
                monks++;
            }
        }

        private boolean hasStall(int stall) {
            for (int m = 0; m < monks; m++) {
                if (of(STALL, m) == stall) {
                    return true;
                }
            }
            return false;
        }

        private boolean isLost(int monk) {
            return of(LOST, monk) > 0;
        }

        private boolean isAt(int monk, int flag) {
            return of(LOST, monk) == 0 && of(FLAG, monk) == flag;
        }

        private boolean doesLike(int monk, int month) {
            return holdsBit(of(LIKES, monk), month);
        }

        private int walkOf(int monk) {
            return of(FLAG, monk) / (FLAGS / WALKS);
        }

        private int monksIn(int walk) {
            int found = 0;
            for (int m = 0; m < monks; m++) {
                if (walkOf(m) == walk) {
                    found++;
                }
            }
            return found;
        }

        private int seasonOf(int flag) {
            return mood == OWN_MOOD ? flag / (FLAGS / WALKS) : mood;
        }

        private int sumOf(int what) {
            int sum = 0;
            for (int m = 0; m < monks; m++) {
                sum += of(what, m);
            }
            return sum;
        }

        private int lagOf(int monk) {
            int all = sumOf(LATE);
            return all == 0 ? 0 : 100 * of(LATE, monk) / all;
        }

        /** The grass helps once at most: twice over it is where one was. */
        private int farOf(int flag, int other) {
            int steps = stepsApart(flag, other);
            return Math.min(steps, Math.max(1, grass) + FLAGS / 2 - steps);
        }

        private void shareOut(int n) {
            for (int i = 0; i < n; i++) {
                int least = 0;
                for (int walk = 1; walk < WALKS; walk++) {
                    if (storeOf(walk) < storeOf(least)) {
                        least = walk;
                    }
                }
                addStore(least, 1);
            }
        }

        /** An hour more, with draws or as ahead: who was late in it, as bits. */
        private int passHour(Law law, boolean draws) {
            for (int m = 0; m < monks; m++) {
                goOn(m, law);
            }
            for (int m = 0; m < monks; m++) {
                eat(m);
            }
            int late = hour % HOURS_AN_OFFICE == 0 ? holdOffice() : 0;
            if (draws && draw() % 100 < fickle) {
                mood = draw() % MOODS;
            }
            harvest();
            turnClock();
            return late;
        }

        private void goOn(int monk, Law law) {
            if (isLost(monk)) {
                put(LOST, monk, of(LOST, monk) - 1);
                return;
            }
            int to = of(FLAG, monk) + law.strideOf(this, monk);
            put(FLAG, monk, to % FLAGS);
            if (to >= FLAGS) {
                put(ROUNDS, monk, Math.min(MOST_ROUNDS, of(ROUNDS, monk) + 1));
                log.add(day, hour, Log.ROUND, monk, to % FLAGS);
            }
        }

        private void eat(int monk) {
            if (isLost(monk)) {
                return;
            }
            int walk = walkOf(monk);
            if (storeOf(walk) > 0) {
                addStore(walk, -1);
                put(HUNGER, monk, 0);
            } else {
                put(HUNGER, monk, Math.min(MOST_HUNGER, of(HUNGER, monk) + 1));
            }
        }

        private int holdOffice() {
            int late = 0;
            for (int m = 0; m < monks; m++) {
                if (!isAt(m, bell)) {
                    late |= 1 << m;
                    put(LATE, m, Math.min(MOST_LATE, of(LATE, m) + 1));
                    log.add(day, hour, Log.LATE_ROW, m, of(FLAG, m));
                }
            }
            return late;
        }

        private int draw() {
            seed = 1103515245 * seed + 12345;
            return seed >>> 16 & 32767;
        }

        private void harvest() {
            for (int walk = 0; walk < WALKS; walk++) {
                if (seasonOf(walk * (FLAGS / WALKS)) == SUMMER) {
                    addStore(walk, 2);
                }
            }
        }

        private void turnClock() {
            hour++;
            if (hour >= HOURS_A_DAY) {
                hour = 0;
                day = Math.min(MOST_DAY, day + 1);
            }
        }
    }

    /** The latest rows of who was late and who came round, each in one number. */
    private static final class Log {
        private static final int MOST_ROWS = 60;
        private static final int LATE_ROW = 0;
        private static final int ROUND = 1;
        private static final int WHICH_MONK = 3;
        private static final int WHERE = 4;

        private final int[] rows = new int[MOST_ROWS];
        private int size;
        private int next;

        private void copyFrom(Log other) {
            copyRow(other.rows, rows);
            size = other.size;
            next = other.next;
        }

        private void add(int day, int hour, int kind, int monk, int flag) {
            if (next >= 0 && next < MOST_ROWS) {
                rows[next] = day << 13 | hour << 8 | kind << 7 | monk << 4 | flag;
                next = (next + 1) % MOST_ROWS;
                size = Math.min(MOST_ROWS, size + 1);
            }
        }

        private int told(int ago, int what) {
            if (ago < 0 || ago >= size) {
                return NONE;
            }
            int row = rows[Math.floorMod(next - 1 - ago, MOST_ROWS)];
            switch (what) {
                case 0: return row >> 13;
                case 1: return row >> 8 & 31;
                case 2: return row >> 7 & 1;
                case WHICH_MONK: return row >> 4 & 7;
                default: return row & 15;
            }
        }

        private int rowsOf(int monk) {
            int found = 0;
            for (int ago = 0; ago < size; ago++) {
                if (told(ago, WHICH_MONK) == monk) {
                    found++;
                }
            }
            return found;
        }

        private int latestFlagOf(int monk) {
            for (int ago = 0; ago < size; ago++) {
                if (told(ago, WHICH_MONK) == monk) {
                    return told(ago, WHERE);
                }
            }
            return NONE;
        }
    }

    /** What comes, tried on a cloister of its own. */
    private static final class Foresight {
        private static final int SEEDS = 6;

        private final Cloister then = new Cloister();
        private final int[] lateTimes = new int[MOST_MONKS];
        private final long[] shares = new long[MOST_ODDS + 1];

        private void look(Cloister now) {
            then.copyFrom(now);
        }

        private void passHours(Law law, int n, boolean draws) {
            for (int i = 0; i < n; i++) {
                then.passHour(law, draws);
            }
        }

        private int firstAt(Cloister now, Law law, int monk, int flag) {
            look(now);
            for (int n = 0; n <= MOST_AHEAD; n++) {
                if (then.isAt(monk, flag)) {
                    return n;
                }
                then.passHour(law, false);
            }
            return NONE;
        }

        private int firstTogether(Cloister now, Law law, int monk, int other) {
            look(now);
            for (int n = 0; n <= MOST_AHEAD; n++) {
                if (!then.isLost(monk) && then.isAt(other, then.of(FLAG, monk))) {
                    return n;
                }
                then.passHour(law, false);
            }
            return NONE;
        }

        private int firstHunger(Cloister now, Law law) {
            look(now);
            for (int n = 0; n <= MOST_AHEAD; n++) {
                if (then.sumOf(HUNGER) > 0) {
                    return n;
                }
                then.passHour(law, false);
            }
            return NONE;
        }

        /** Passes offices from what was looked at: how often monks are late, all together. */
        private int passOffices(Law law, int offices) {
            for (int m = 0; m < MOST_MONKS; m++) {
                lateTimes[m] = 0;
            }
            int held = 0;
            int late = 0;
            // An hour whose number 3 divides is never farther than three hours on.
            for (int n = 0; n < HOURS_AN_OFFICE * MOST_OFFICES && held < offices; n++) {
                if (then.hour % HOURS_AN_OFFICE == 0) {
                    held++;
                }
                late += countLate(then.passHour(law, false));
            }
            return late;
        }

        private int countLate(int who) {
            for (int m = 0; m < MOST_MONKS; m++) {
                if (holdsBit(who, m)) {
                    lateTimes[m]++;
                }
            }
            return Integer.bitCount(who);
        }

        private int mostLate() {
            int best = NONE;
            int most = 0;
            for (int m = 0; m < MOST_MONKS; m++) {
                if (lateTimes[m] > most) {
                    most = lateTimes[m];
                    best = m;
                }
            }
            return best;
        }

        /** The bell's flag, or (moods) the mood, by which monks are late the least often. */
        private int bestChoice(Cloister now, Law law, boolean moods) {
            int best = 0;
            int least = MUCH;
            for (int choice = 0; choice < (moods ? MOODS : FLAGS); choice++) {
                look(now);
                if (moods) {
                    then.mood = choice;
                } else {
                    then.bell = choice;
                }
                int late = passOffices(law, OFFICES_TOLD);
                if (late < least) {
                    least = late;
                    best = choice;
                }
            }
            return best;
        }

        private int spanOf(Cloister now, Law law, int n, boolean most) {
            int least = MUCH;
            int greatest = 0;
            for (int seed = 1; seed <= SEEDS; seed++) {
                look(now);
                then.seed = seed;
                passHours(law, n, true);
                int late = then.sumOf(LATE);
                least = Math.min(least, late);
                greatest = Math.max(greatest, late);
            }
            return most ? greatest : least;
        }

        /** In whole numbers: of 100 to the power n shares those in which the mood is drawn so often. */
        private int oddsOf(Cloister now, int n, int k) {
            for (int times = 0; times <= MOST_ODDS; times++) {
                shares[times] = times == 0 ? 1 : 0;
            }
            for (int hour = 0; hour < n; hour++) {
                for (int times = MOST_ODDS; times >= 0; times--) {
                    long fewer = times > 0 ? shares[times - 1] : 0;
                    shares[times] = shares[times] * (MOST_FICKLE - now.fickle) + fewer * now.fickle;
                }
            }
            long odds = 0;
            for (int times = MOST_ODDS; times >= k && times >= 0; times--) {
                odds += 10000 * shares[times];
            }
            for (int hour = 0; hour < n; hour++) {
                odds /= MOST_FICKLE;
            }
            return (int) odds;
        }
    }

    /** Ways by told flags. */
    private static final class Roads {
        private static final int MOST_TOLD = 7;
        private static final int TOLD_SETS = 128;

        private final int[] told = new int[MOST_TOLD];
        // For a set of told flags and one of them: the least way from that one by all of the set.
        private final int[] rest = new int[TOLD_SETS * MOST_TOLD];
        private int size;

        /** Takes flags from the tape: whether it tells flags alone, none twice. */
        private boolean readFlags(Tape tape) {
            size = 0;
            if (tape.size > MOST_TOLD) {
                return false;
            }
            int met = 0;
            for (int i = 0; i < tape.size && i < MOST_TOLD; i++) {
                int flag = tape.byteAt(i);
                if (flag < 0 || flag >= FLAGS || holdsBit(met, flag)) {
                    return false;
                }
                met |= 1 << flag;
                told[i] = flag;
                size++;
            }
            return true;
        }

        private int leastWay(Cloister now, int from) {
            int all = (1 << size) - 1;
            for (int set = 0; set <= all && set < TOLD_SETS; set++) {
                for (int i = 0; i < size && i < MOST_TOLD; i++) {
                    rest[set * MOST_TOLD + i] = leastFrom(now, told[i], set);
                }
            }
            return leastFrom(now, from, all);
        }

        private int firstFlag(Cloister now, int from) {
            int least = leastWay(now, from);
            int all = (1 << size) - 1;
            int first = NONE;
            for (int i = 0; i < size && i < MOST_TOLD; i++) {
                if (wayBy(now, from, i, all) == least && (first == NONE || told[i] < first)) {
                    first = told[i];
                }
            }
            return first;
        }

        /** The least way from a flag by all of a set; lesser sets are known by then. */
        private int leastFrom(Cloister now, int from, int set) {
            int least = set == 0 ? 0 : MUCH;
            for (int i = 0; i < size; i++) {
                if (holdsBit(set, i)) {
                    least = Math.min(least, wayBy(now, from, i, set));
                }
            }
            return least;
        }

        private int wayBy(Cloister now, int from, int first, int set) {
            int at = (set & ~(1 << first)) * MOST_TOLD + first;
            if (first < 0 || first >= MOST_TOLD || at < 0 || at >= rest.length) {
                return 0;
            }
            return now.farOf(from, told[first]) + rest[at];
        }
    }

    /** Monks put to stalls by the months that they like. */
    private static final class Stalls {
        private final int[] likedBy = new int[MONK_SETS];
        private final int[] pointed = new int[MOST_MONKS];
        private final int[] givers = new int[MOST_MONKS];
        private final int[] ringSizes = new int[MOST_MONKS];

        /** Gathers the months that each set of monks likes together. */
        private void gatherLikes(Cloister now) {
            for (int set = 0; set < MONK_SETS; set++) {
                likedBy[set] = 0;
                for (int m = 0; m < now.monks; m++) {
                    if (holdsBit(set, m)) {
                        likedBy[set] |= now.of(LIKES, m);
                    }
                }
            }
        }

        /** By Hall's rule: as many fail to sit as some of them are more than their free months. */
        private int seatable(int who, int free) {
            int least = Integer.bitCount(who);
            for (int set = 0; set <= who && set < MONK_SETS; set++) {
                if ((set & ~who) == 0) {
                    int seated = Integer.bitCount(who & ~set) + Integer.bitCount(likedBy[set] & free);
                    least = Math.min(least, seated);
                }
            }
            return least;
        }

        private int mostSeated(Cloister now) {
            gatherLikes(now);
            return seatable((1 << now.monks) - 1, (1 << MONTHS) - 1);
        }

        private int seatOf(Cloister now, int monk) {
            int free = (1 << MONTHS) - 1;
            int seated = mostSeated(now);
            int who = (1 << now.monks) - 1;
            int seat = NONE;
            for (int m = 0; m <= monk; m++) {
                who &= ~(1 << m);
                seat = firstSeat(now.of(LIKES, m) & free, who, free, seated);
                if (seat != NONE) {
                    free &= ~(1 << seat);
                    seated--;
                }
            }
            return seat;
        }

        /** The least of the open stalls by which as many can be seated, with those behind. */
        private int firstSeat(int open, int behind, int free, int seated) {
            for (int stall = 0; stall < MONTHS; stall++) {
                if (holdsBit(open, stall) && 1 + seatable(behind, free & ~(1 << stall)) == seated) {
                    return stall;
                }
            }
            return NONE;
        }

        private int fewestWithTooFew(Cloister now) {
            gatherLikes(now);
            int best = 0;
            int fewest = MOST_MONKS + 1;
            for (int set = 1; set < 1 << now.monks && set < MONK_SETS; set++) {
                int many = Integer.bitCount(set);
                if (many < fewest && Integer.bitCount(likedBy[set]) < many) {
                    fewest = many;
                    best = set;
                }
            }
            return best;
        }

        /** Trades till all are done; each time round one ring at least is. */
        private void tradeAll(Cloister now) {
            int left = (1 << now.monks) - 1;
            for (int times = 0; times < MOST_MONKS && left != 0; times++) {
                for (int m = 0; m < now.monks && m < MOST_MONKS; m++) {
                    pointed[m] = pointerOf(now, m, left);
                }
                int done = 0;
                for (int m = 0; m < now.monks && m < MOST_MONKS; m++) {
                    int ring = holdsBit(left, m) ? ringOf(m) : 0;
                    if (ring > 0) {
                        givers[m] = pointed[m];
                        ringSizes[m] = ring;
                        done |= 1 << m;
                    }
                }
                left &= ~done;
            }
        }

        private int pointerOf(Cloister now, int monk, int left) {
            int best = monk;
            int least = MUCH;
            for (int other = 0; other < now.monks; other++) {
                int rank = rankOf(now, monk, other);
                if (holdsBit(left, other) && rank < least) {
                    least = rank;
                    best = other;
                }
            }
            return best;
        }

        /** Lesser for a stall that he would rather have. */
        private static int rankOf(Cloister now, int monk, int other) {
            int month = now.of(STALL, other);
            int on = Math.floorMod(month - now.of(STALL, monk), MONTHS);
            return (now.doesLike(monk, month) ? 0 : MONTHS) + Math.min(on, MONTHS - on);
        }

        /** How many are in the ring of a monk, or 0 if he is in none. */
        private int ringOf(int monk) {
            int at = monk;
            for (int many = 1; many <= MOST_MONKS; many++) {
                at = at >= 0 && at < MOST_MONKS ? pointed[at] : monk;
                if (at == monk) {
                    return many;
                }
            }
            return 0;
        }

        private int giverOf(int monk) {
            return monk >= 0 && monk < MOST_MONKS ? givers[monk] : NONE;
        }

        private int ringSizeOf(int monk) {
            return monk >= 0 && monk < MOST_MONKS ? ringSizes[monk] : NONE;
        }
    }

    /** Unknown pairs of numbers, and those of them that fit told rows of an hour and an answer. */
    private static final class Riddle {
        private static final int MOST_TOLD = 40;
        private static final int STRIDES = 9;
        private static final int WALK_PAIRS = 144;
        private static final int RULE_PAIRS = 25;
        private static final int MOST_PARTS = 5;

        private final int[] told = new int[MOST_TOLD];
        private final boolean[] fits = new boolean[WALK_PAIRS];
        private final int[] parts = new int[MOST_PARTS];
        private int size;
        private boolean ofWalk;
        private int bell;
        private int pairsKnown;
        private int fitting;

        /** Takes rows of one who walks: whether the tape tells such rows. */
        private boolean readWalk(Tape tape, int bellFlag) {
            ofWalk = true;
            bell = bellFlag;
            pairsKnown = WALK_PAIRS;
            return readRows(tape, 1);
        }

        /** Takes rows of the abbot's rule: whether the tape tells such rows. */
        private boolean readRule(Tape tape) {
            ofWalk = false;
            pairsKnown = RULE_PAIRS;
            return readRows(tape, MOODS - 1);
        }

        private boolean readRows(Tape tape, int mostAnswer) {
            size = 0;
            if (tape.size > MOST_TOLD || tape.size % 2 != 0) {
                return false;
            }
            for (int i = 0; i < tape.size && i < MOST_TOLD; i++) {
                told[i] = tape.byteAt(i);
                if (told[i] < 0 || told[i] > (i % 2 == 0 ? HOURS_A_DAY - 1 : mostAnswer)) {
                    return false;
                }
                size++;
            }
            findFitting();
            return true;
        }

        private void findFitting() {
            fitting = 0;
            for (int pair = 0; pair < pairsKnown && pair < WALK_PAIRS; pair++) {
                fits[pair] = doesFit(pair);
                if (fits[pair]) {
                    fitting++;
                }
            }
        }

        private boolean doesFit(int pair) {
            for (int i = 0; i + 1 < size && i + 1 < MOST_TOLD; i += 2) {
                if (answerOf(pair, told[i]) != told[i + 1]) {
                    return false;
                }
            }
            return true;
        }

        private int answerOf(int pair, int hour) {
            if (ofWalk) {
                return (pair / STRIDES + hour * (pair % STRIDES)) % FLAGS == bell ? 1 : 0;
            }
            return (pair / MOODS * hour + pair % MOODS) % MOODS;
        }

        private int beginnings() {
            int bits = 0;
            for (int pair = 0; pair < WALK_PAIRS; pair++) {
                if (fits[pair]) {
                    bits |= 1 << pair / STRIDES;
                }
            }
            return bits;
        }

        private int firstFitting() {
            for (int pair = 0; pair < pairsKnown && pair < WALK_PAIRS; pair++) {
                if (fits[pair]) {
                    return pair;
                }
            }
            return NONE;
        }

        private int bestHour() {
            if (fitting < 2) {
                return NONE;
            }
            int best = 0;
            int least = MUCH;
            for (int hour = 0; hour < HOURS_A_DAY; hour++) {
                int part = greatestPart(hour);
                if (part < least) {
                    least = part;
                    best = hour;
                }
            }
            return best;
        }

        private int greatestPart(int hour) {
            for (int i = 0; i < MOST_PARTS; i++) {
                parts[i] = 0;
            }
            int greatest = 0;
            for (int pair = 0; pair < pairsKnown && pair < WALK_PAIRS; pair++) {
                int answer = answerOf(pair, hour);
                if (fits[pair] && answer >= 0 && answer < MOST_PARTS) {
                    parts[answer]++;
                    greatest = Math.max(greatest, parts[answer]);
                }
            }
            return greatest;
        }
    }

    /** What monks are to one another, and one of them to the gardener. */
    private static final class Brothers {
        private static final int WATCHED_FLAGS = 2;

        // For a set of monks: the most months shared by pairs among these alone.
        private final int[] shared = new int[MONK_SETS];

        private int mostShared(Cloister now) {
            int all = (1 << now.monks) - 1;
            for (int set = 0; set <= all && set < MONK_SETS; set++) {
                int first = 0;
                while (first < now.monks && !holdsBit(set, first)) {
                    first++;
                }
                int most = sharedOf(set & ~(1 << first));
                for (int other = first + 1; other < now.monks; other++) {
                    if (holdsBit(set, other)) {
                        most = Math.max(most, sharedWith(now, set, first, other));
                    }
                }
                shared[set] = most;
            }
            return sharedOf(all);
        }

        private int sharedOf(int set) {
            return set > 0 && set < MONK_SETS ? shared[set] : 0;
        }

        private int sharedWith(Cloister now, int set, int monk, int other) {
            int both = now.of(LIKES, monk) & now.of(LIKES, other);
            return Integer.bitCount(both) + sharedOf(set & ~(1 << monk) & ~(1 << other));
        }

        private int partnerOf(Cloister now, int monk) {
            mostShared(now);
            int set = (1 << now.monks) - 1;
            for (int m = 0; m < now.monks; m++) {
                if (holdsBit(set, m)) {
                    int other = firstPartner(now, set, m);
                    if (m == monk) {
                        return other;
                    }
                    if (other == monk) {
                        return m;
                    }
                    set &= ~(1 << m);
                    set = other == NONE ? set : set & ~(1 << other);
                }
            }
            return NONE;
        }

        /** None comes first of all, so nobody is put to one with whom he shares nothing. */
        private int firstPartner(Cloister now, int set, int monk) {
            if (sharedOf(set & ~(1 << monk)) == sharedOf(set)) {
                return NONE;
            }
            for (int other = monk + 1; other < now.monks; other++) {
                if (holdsBit(set, other) && sharedWith(now, set, monk, other) == sharedOf(set)) {
                    return other;
                }
            }
            return NONE;
        }

        private int fewestWatching(Cloister now) {
            int best = NONE;
            int fewest = MOST_MONKS + 1;
            for (int set = 0; set < 1 << now.monks && set < MONK_SETS; set++) {
                if (Integer.bitCount(set) < fewest && watchesAll(now, set)) {
                    fewest = Integer.bitCount(set);
                    best = set;
                }
            }
            return best;
        }

        private boolean watchesAll(Cloister now, int set) {
            for (int m = 0; m < now.monks; m++) {
                if (holdsBit(set, m) && now.isLost(m) || !isWatched(now, now.of(FLAG, m), set)) {
                    return false;
                }
            }
            return true;
        }

        private boolean isWatched(Cloister now, int flag, int set) {
            for (int m = 0; m < now.monks; m++) {
                if (holdsBit(set, m) && stepsApart(now.of(FLAG, m), flag) <= WATCHED_FLAGS) {
                    return true;
                }
            }
            return false;
        }

        private boolean carries(Cloister now, int set) {
            int voices = 0;
            for (int m = 0; m < now.monks; m++) {
                if (holdsBit(set, m)) {
                    voices += now.of(ROUNDS, m);
                }
            }
            return voices > now.sumOf(ROUNDS) - voices;
        }

        private int swingsOf(Cloister now, int monk) {
            int found = 0;
            for (int set = 0; set < 1 << now.monks; set++) {
                if (holdsBit(set, monk) && carries(now, set) && !carries(now, set & ~(1 << monk))) {
                    found++;
                }
            }
            return found;
        }

        private int mostSwinging(Cloister now) {
            int best = NONE;
            int most = 0;
            for (int m = 0; m < now.monks; m++) {
                int found = swingsOf(now, m);
                if (found > most) {
                    most = found;
                    best = m;
                }
            }
            return best;
        }

        /** Choices, told as 2 times the monk's and the gardener's, that neither would leave alone. */
        private int restsOf(Cloister now, int monk) {
            int bits = 0;
            for (int choice = 0; choice < 4; choice++) {
                boolean monkStays = gainOfMonk(now, monk, choice) >= gainOfMonk(now, monk, choice ^ 2);
                if (monkStays && gainOfGardener(choice) >= gainOfGardener(choice ^ 1)) {
                    bits |= 1 << choice;
                }
            }
            return bits;
        }

        private static int gainOfMonk(Cloister now, int monk, int choice) {
            if (choice == 0) {
                return -now.grass;
            }
            return choice == 1 ? stepsApart(now.of(FLAG, monk), now.bell) : 0;
        }

        private static int gainOfGardener(int choice) {
            switch (choice) {
                case 0: return 3;
                case 1: return -2;
                case 2: return -1;
                default: return 0;
            }
        }
    }
}

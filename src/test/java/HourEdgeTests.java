import java.util.function.Consumer;

/** The edges of what a cloister has and of what hours and acts do, by the sentences of ../shared/DOC.md. */
public final class HourEdgeTests {
    private static final int NONE = SeasonWalks.NONE;
    private static final Due due = new Due("edges of hours");

    private HourEdgeTests() {
    }

    public static void main(String[] args) {
        atFirst();
        flagsGoRound();
        walksOfFlags();
        hoursAndDays();
        offices();
        seasonsByMood();
        lostForHours();
        lostForTwenty();
        grassOfNone();
        storesAreEaten();
        hungerAtMost();
        lateAtMost();
        roundsAtMost();
        drawsBelowFickle();
        drawsGoRound();
        harvests();
        storesAtMost();
        logOfSixty();
        logFallsOut();
        logRows();
        hoursOfOneCall();
        eightActs();
        noActs();
        twelveActs();
        refusedActs();
        actsForgotten();
        undoneButFor();
        imageOfAll();
        noImage();
        fiveHundredAndTwelveCalls();
        due.close();
    }

    private static int next(int seed) {
        return 1103515245 * seed + 12345;
    }

    private static int draw(int seed) {
        int bits = 0;
        for (int bit = 16; bit <= 30; bit++) {
            bits += (seed >> bit & 1) * (1 << bit - 16);
        }
        return bits;
    }

    private static void hoursOf(SeasonWalks x, int n) {
        for (int left = n; left > 0; left -= 72) {
            x.hours(Math.min(72, left));
        }
    }

    private static void counts(String when, SeasonWalks x, int... want) {
        for (int what = 0; what < want.length; what++) {
            due.is(when + " count(" + what + ")", x.count(what), want[what]);
        }
    }

    private static void monk(String when, SeasonWalks x, int monk, int... want) {
        for (int what = 0; what < want.length; what++) {
            due.is(when + " monk(" + monk + ", " + what + ")", x.monk(monk, what), want[what]);
        }
    }

    /** "A cloister of nobody": all that is told "at first". */
    private static void atFirst() {
        SeasonWalks x = new SeasonWalks();
        counts("new", x, 0, 0, NONE, 0, 0, 0, 4, 0, 4, 80, 0, 0, 0, NONE);
        due.is("new stores", x.store(0) == 20 && x.store(1) == 20 && x.store(2) == 20 && x.store(3) == 20, true);
        due.is("new fault", x.fault(), NONE);
        due.is("new seed", x.seed(1), 1);
        due.is("new tape", x.end(1), false);
        due.is("nothing to undo", x.undo(), false);
        due.is("no image", x.back(), false);
        due.is("no log", x.log(0, 0), NONE);
        due.outOfBounds("nobody", () -> x.monk(0, 0));
        SeasonWalks y = Tapes.told("monk at 0 stall 0");
        monk("new", y, 0, 0, 2, 0, 0, 0, 0, 0, 0, 2, 0);
    }

    /** "FLAGS 0 to 15, one behind another (0 behind 15)"; "if he goes from FLAG 15 to 0 on his way, ROUNDS is 1 more". */
    private static void flagsGoRound() {
        int[] flags = {0, 1, 7, 14, 15};
        for (int flag : flags) {
            for (int stride = 0; stride <= 15; stride++) {
                SeasonWalks x = Tapes.told("monk at " + flag + " stall 0 pace 0;hour 1");
                Tapes.law(x, "haste " + stride);
                x.hours(1);
                int to = flag;
                int rounds = 0;
                for (int step = 0; step < stride; step++) {
                    rounds += to == 15 ? 1 : 0;
                    to = to == 15 ? 0 : to + 1;
                }
                String way = flag + " on by " + stride;
                due.is(way, x.monk(0, 0), to);
                due.is("rounds from " + way, x.monk(0, 7), rounds);
                due.is("rows from " + way, x.count(11), rounds);
            }
        }
    }

    /** "WALK of a FLAG: the FLAG by 4, rounded down". */
    private static void walksOfFlags() {
        for (int flag = 0; flag < 16; flag++) {
            SeasonWalks x = Tapes.told("monk at " + flag + " stall 0 pace 0;mood winter");
            int walk = flag < 4 ? 0 : flag < 8 ? 1 : flag < 12 ? 2 : 3;
            x.hours(1);
            due.is("eaten at " + flag, x.store(walk), 19);
            due.is("one alone at " + flag, x.count(9), 79);
            due.is("throng at " + flag, x.throng(), walk);
            due.is("empty but for " + flag, x.empty(), 15 - (1 << walk));
            due.is("feeds at " + flag, x.feeds(walk), 19);
            due.is("feeds elsewhere", x.feeds((walk + 1) % 4) + x.feeds((walk + 3) % 4), 2 * NONE);
            x.mood(4);
            due.is("season of " + flag, x.season(flag), walk);
        }
    }

    /** "HOUR is 1 more; behind 23 it is 0, and DAY is 1 more". */
    private static void hoursAndDays() {
        SeasonWalks x = Tapes.told("hour 22;day 998");
        x.hours(1);
        due.is("23 of the same day", x.count(3) * 1000 + x.count(4), 23998);
        x.hours(1);
        due.is("0 of the next", x.count(3) * 1000 + x.count(4), 999);
        x.hours(23);
        due.is("23 of that", x.count(3) * 10000 + x.count(4), 230999);
        x.hours(1);
        due.is("days go on behind 999", x.count(3) * 10000 + x.count(4), 1000);
        x.hours(72);
        due.is("three days", x.count(3) * 10000 + x.count(4), 1003);
        due.noNumber("no hour", () -> x.hours(0));
        due.noNumber("an hour too many", () -> x.hours(73));
        due.is("none passed", x.count(3) * 10000 + x.count(4), 1003);
    }

    /** "OFFICE: an HOUR that 3 divides": 0 and 21 are such, 23 is none. */
    private static void offices() {
        for (int hour = 0; hour < 24; hour++) {
            SeasonWalks x = Tapes.told("monk at 1 stall 0 pace 0;monk at 0 stall 1 pace 0;hour " + hour);
            due.is("late at " + hour, x.hours(1), hour % 3 == 0 ? 1 : 0);
            due.is("LATE at " + hour, x.monk(0, 5) * 10 + x.monk(1, 5), hour % 3 == 0 ? 10 : 0);
        }
    }

    /** "the SEASON of a FLAG is MOOD, if that is 0 to 3, else its WALK". */
    private static void seasonsByMood() {
        SeasonWalks x = new SeasonWalks();
        for (int mood = 4; mood >= 0; mood--) {
            due.is("mood before", x.mood(mood), mood == 4 ? 4 : mood + 1);
            for (int flag = 0; flag < 16; flag++) {
                due.is("season of " + flag + " by " + mood, x.season(flag), mood == 4 ? flag / 4 : mood);
            }
        }
    }

    /** "if he is LOST, LOST is 1 less; else he goes on"; who is LOST does not eat and is late even at the BELL. */
    private static void lostForHours() {
        SeasonWalks x = Tapes.told("monk at 0 stall 0 pace 2;grass 2;bell 8;hour 23");
        due.is("over the grass", x.cross(0), 8);
        due.is("no office at 23", x.hours(1), 0);
        monk("lost for one more", x, 0, 8, 2, 0, 0, 1, 0, 0, 0);
        due.is("he did not eat", x.store(2), 20);
        due.is("lost no more, at the bell in time", x.hours(1), 0);
        monk("lost for none", x, 0, 8, 2, 0, 0, 0, 0, 0, 0);
        due.is("he ate", x.store(2), 19);
        x.hours(1);
        due.is("he goes on then", x.monk(0, 0), 10);
        SeasonWalks y = Tapes.told("monk at 0 stall 0 pace 0;grass 3;bell 8;store spring 0");
        y.hours(2);
        y.cross(0);
        y.hours(2);
        monk("late at the bell, hunger stays", y, 0, 8, 0, 0, 0, 1, 2, 2, 0);
        due.is("not in choir", y.choir(), 0);
        y.hours(1);
        monk("found, fed", y, 0, 8, 0, 0, 0, 0, 2, 0, 0);
        due.is("in choir", y.choir(), 1);
    }

    /** "LOST 0 to 20", "GRASS 0 to 20 (4 at first)". */
    private static void lostForTwenty() {
        SeasonWalks x = Tapes.told("monk at 15 stall 0 pace 1;grass 20");
        due.is("across the end", x.cross(0), 7);
        due.is("no round", x.monk(0, 7), 0);
        x.hours(19);
        due.is("an hour left", x.monk(0, 4) * 100 + x.monk(0, 0), 107);
        due.fails("lost yet", IllegalStateException.class, () -> x.cross(0));
        x.hours(1);
        due.is("none left", x.monk(0, 4) * 100 + x.monk(0, 0), 7);
        due.fails("not lost", IllegalStateException.class, () -> x.find(0));
        x.hours(1);
        due.is("on", x.monk(0, 0), 8);
        SeasonWalks y = Tapes.told("monk at 8 stall 0");
        due.is("from 8 to 0", y.cross(0), 0);
        due.is("four at first", y.monk(0, 4), 4);
        due.is("found of four", y.find(0), 4);
        due.is("from 0 to 8", y.cross(0), 8);
    }

    /** Over GRASS of 0 nobody gets LOST. */
    private static void grassOfNone() {
        SeasonWalks x = Tapes.told("monk at 7 stall 0 pace 1;grass 0");
        due.is("over", x.cross(0), 15);
        due.is("not lost", x.monk(0, 4) * 10 + x.gone(), 0);
        due.is("over again", x.cross(0), 7);
        due.fails("not to be found", IllegalStateException.class, () -> x.find(0));
        due.is("two acts", x.count(12), 2);
        x.hours(1);
        due.is("he goes on at once", x.monk(0, 0), 8);
    }

    /** "of the STORE 1 is taken and HUNGER is 0, or, if there is none, HUNGER is 1 more", by numbers. */
    private static void storesAreEaten() {
        SeasonWalks x = Tapes.told("monk at 3 stall 0 pace 0;monk at 0 stall 1 pace 0;monk at 2 stall 2 pace 0;"
                + "store spring 2;hour 1");
        x.hours(1);
        due.is("the last one has none", x.monk(0, 6) * 100 + x.monk(1, 6) * 10 + x.monk(2, 6), 1);
        due.is("nothing is left", x.store(0), 0);
        x.hours(1);
        due.is("none for all", x.monk(0, 6) * 100 + x.monk(1, 6) * 10 + x.monk(2, 6), 112);
        due.is("never below nothing", x.store(0), 0);
        x.fill(0, 1);
        x.hours(1);
        due.is("one for the first", x.monk(0, 6) * 100 + x.monk(1, 6) * 10 + x.monk(2, 6), 23);
    }

    /** "HUNGER is 1 more (99 at most)". */
    private static void hungerAtMost() {
        SeasonWalks x = Tapes.told("monk at 0 stall 0 pace 0;store spring 0");
        hoursOf(x, 98);
        due.is("98", x.monk(0, 6), 98);
        x.hours(1);
        due.is("99", x.monk(0, 6), 99);
        x.hours(1);
        due.is("99 at most", x.monk(0, 6) * 10 + x.hungriest(), 990);
        x.fill(0, 1);
        x.hours(1);
        due.is("fed", x.monk(0, 6), 0);
        x.hours(1);
        due.is("hungry anew", x.monk(0, 6), 1);
    }

    /** "LATE is 1 more (999 at most)". */
    private static void lateAtMost() {
        SeasonWalks x = Tapes.told("monk at 1 stall 0 pace 0;monk at 0 stall 1 pace 0");
        hoursOf(x, 3 * 998);
        due.is("998", x.monk(0, 5), 998);
        x.hours(3);
        due.is("999", x.monk(0, 5), 999);
        due.is("late once more", x.hours(3), 1);
        due.is("999 at most", x.monk(0, 5) * 1000 + x.count(10), 999999);
        due.is("all of it is his", x.monk(0, 9) * 1000 + x.monk(1, 9), 100000);
    }

    /** "ROUNDS is 1 more (999 at most)". */
    private static void roundsAtMost() {
        SeasonWalks x = Tapes.told("monk at 0 stall 0 pace 8;monk at 0 stall 1 pace 0;mood spring");
        hoursOf(x, 2 * 998);
        due.is("998", x.monk(0, 7) * 10 + x.round(999), 9980);
        x.hours(2);
        due.is("999", x.monk(0, 7) * 10 + x.round(999), 9991);
        x.hours(2);
        due.is("999 at most", x.monk(0, 7), 999);
        due.is("he carries it alone", x.chapter(1) && !x.chapter(2), true);
    }

    /** "if DRAW modulo 100 is below FICKLE: MOOD is DRAW modulo 5 (a second DRAW just then)". */
    private static void drawsBelowFickle() {
        for (int seed = 1; seed <= 60; seed++) {
            int chance = draw(next(seed)) % 100;
            SeasonWalks x = Tapes.told("fickle " + chance);
            x.seed(seed);
            x.hours(1);
            due.is("not below by " + seed, x.count(6), 4);
            due.is("one draw by " + seed, x.seed(0), next(seed));
            SeasonWalks y = Tapes.told("fickle " + (chance + 1));
            y.seed(seed);
            y.hours(1);
            due.is("just below by " + seed, y.count(6), draw(next(next(seed))) % 5);
            due.is("two draws by " + seed, y.seed(0), next(next(seed)));
        }
        SeasonWalks never = new SeasonWalks();
        hoursOf(never, 720);
        due.is("never by 0", never.count(6), 4);
        SeasonWalks always = Tapes.told("fickle 100");
        int seed = 1;
        for (int hour = 0; hour < 200; hour++) {
            seed = next(next(seed));
            always.hours(1);
            due.is("always by 100", always.count(6), draw(seed) % 5);
        }
    }

    /** "as an int that goes round; bits 16 to 30 (SEED 1 at first)". */
    private static void drawsGoRound() {
        int[] seeds = {0, 1, -1, 2, 77, Integer.MIN_VALUE, Integer.MAX_VALUE, 1 << 30, 1 << 16, 0x7fff0000, -65536};
        for (int first : seeds) {
            SeasonWalks x = Tapes.told("fickle 37");
            due.is("told", x.seed(first), 1);
            int seed = first;
            int mood = 4;
            for (int hour = 0; hour < 40; hour++) {
                seed = next(seed);
                if (draw(seed) % 100 < 37) {
                    seed = next(seed);
                    mood = draw(seed) % 5;
                }
                x.hours(1);
                due.is("mood from " + first, x.count(6), mood);
            }
            due.is("seed from " + first, x.seed(first), seed);
        }
    }

    /** "(e) in each WALK whose first FLAG has SEASON 1 STORE is 2 more", by the mood that (d) just drew. */
    private static void harvests() {
        int[] more = {0, 8, 0, 0, 2};
        for (int mood = 0; mood < 5; mood++) {
            SeasonWalks x = new SeasonWalks();
            x.mood(mood);
            x.hours(1);
            due.is("harvest by " + mood, x.count(9), 80 + more[mood]);
            due.is("of summer by " + mood, x.store(1), mood == 1 || mood == 4 ? 22 : 20);
        }
        for (int seed = 1; seed <= 40; seed++) {
            SeasonWalks x = Tapes.told("fickle 100;mood summer");
            x.seed(seed);
            x.hours(1);
            due.is("harvest by the new mood", x.count(9), 80 + more[x.count(6)]);
        }
    }

    /** "STORE is 2 more (999 at most)", "A STORE is filled by so much more (1 to 99; 999 at most)". */
    private static void storesAtMost() {
        for (int store = 995; store <= 999; store++) {
            SeasonWalks x = Tapes.told("store summer " + store);
            x.hours(1);
            due.is("harvest on " + store, x.store(1), Math.min(999, store + 2));
            SeasonWalks y = Tapes.told("store winter " + store);
            due.is("filled by 3", y.fill(3, 3), Math.min(999, store + 3));
            due.is("has then", y.store(3), Math.min(999, store + 3));
        }
        SeasonWalks x = Tapes.told("store spring 0;store winter 900");
        due.is("by 1", x.fill(0, 1), 1);
        due.is("by 99", x.fill(0, 99), 100);
        due.is("to 999", x.fill(3, 99), 999);
        due.is("and no more", x.fill(3, 1), 999);
        due.is("an act all the same", x.count(12), 4);
    }

    /** "THE LOG: the latest 60 times". */
    private static void logOfSixty() {
        SeasonWalks x = Tapes.told("monk at 1 stall 0 pace 0");
        due.is("none yet", x.log(0, 0) + x.log(0, 4) + x.led(0, true), 3 * NONE);
        hoursOf(x, 59 * 3);
        due.is("59 rows", x.count(11) * 100 + x.led(0, false), 5959);
        due.is("the first of all", x.log(58, 0) * 100 + x.log(58, 1), 0);
        due.is("none further", x.log(59, 0), NONE);
        x.hours(3);
        due.is("60 rows", x.count(11) * 100 + x.led(0, false), 6060);
        due.is("the first of all yet", x.log(59, 0) * 100 + x.log(59, 1), 0);
        due.is("none further than 59", x.log(60, 0), NONE);
        x.hours(1);
        due.is("60 at most", x.count(11) * 100 + x.led(0, false), 6060);
        due.is("the first is gone", x.log(59, 0) * 100 + x.log(59, 1), 3);
        due.is("the latest", x.log(0, 0) * 100 + x.log(0, 1), 712);
        due.is("none further than 60", x.log(60, 1), NONE);
        hoursOf(x, 3 * 200);
        due.is("round and round", x.log(0, 0) * 100 + x.log(0, 1), 3212);
        due.is("each an office apart", x.log(59, 0) * 100 + x.log(59, 1), 2503);
        due.is("none ahead of the latest", x.log(-1, 0), NONE);
        due.is("none by the greatest", x.log(Integer.MAX_VALUE, 2), NONE);
        due.is("none by the least", x.log(Integer.MIN_VALUE, 3), NONE);
    }

    /** Who was late once is led by nothing when 60 others came. */
    private static void logFallsOut() {
        SeasonWalks x = Tapes.told("monk at 0 stall 0 pace 0;monk at 9 stall 1 pace 0;bell 9");
        x.hours(3);
        x.bell(0);
        hoursOf(x, 59 * 3);
        due.is("sixty with his", x.count(11) * 10 + x.led(0, false), 601);
        due.is("his flag", x.led(0, true), 0);
        due.is("his row", x.log(59, 3), 0);
        x.hours(1);
        due.is("sixty without", x.count(11) * 10 + x.led(0, false), 600);
        due.is("no flag of his", x.led(0, true), NONE);
        due.is("all of the other", x.led(1, false) * 100 + x.led(1, true), 6009);
    }

    /** "DAY, HOUR (ahead of its being 1 more), 0 or 1, the MONK, the FLAG where he was then". */
    private static void logRows() {
        SeasonWalks x = Tapes.told("monk at 15 stall 0 pace 1;monk at 14 stall 1 pace 3;hour 23;day 999;mood spring");
        x.hours(1);
        row(x, 0, 999, 23, 1, 1, 1);
        row(x, 1, 999, 23, 1, 0, 0);
        due.is("two rows", x.count(11), 2);
        x.hours(1);
        row(x, 0, 1000, 0, 0, 1, 4);
        row(x, 1, 1000, 0, 0, 0, 1);
        due.is("led", x.led(0, false) * 10 + x.led(0, true), 21);
        SeasonWalks y = Tapes.told("monk at 3 stall 0 pace 0;monk at 15 stall 1 pace 3;hour 21;mood spring");
        y.hours(1);
        row(y, 0, 0, 21, 0, 1, 2);
        row(y, 1, 0, 21, 0, 0, 3);
        row(y, 2, 0, 21, 1, 1, 2);
        row(y, 3, NONE, NONE, NONE, NONE, NONE);
        SeasonWalks z = Tapes.told("monk at 6 stall 0 pace 0;monk at 0 stall 1 pace 0;monk at 0 stall 2 pace 0;"
                + "monk at 0 stall 3 pace 0;monk at 0 stall 4 pace 0;monk at 0 stall 5 pace 0;monk at 7 stall 6 pace 0;"
                + "bell 6");
        z.cross(6);
        z.hours(1);
        row(z, 0, 0, 0, 0, 6, 15);
        row(z, 5, 0, 0, 0, 1, 0);
        row(z, 6, NONE);
    }

    private static void row(SeasonWalks x, int ago, int... want) {
        for (int what = 0; what < want.length; what++) {
            due.is("log(" + ago + ", " + what + ")", x.log(ago, what), want[what]);
        }
    }

    /** "So many HOURS more (1 to 72): how often somebody was LATE in these"; "HOURS of one call are one". */
    private static void hoursOfOneCall() {
        SeasonWalks x = Tapes.told("monk at 1 stall 0 pace 0;monk at 2 stall 1 pace 0;monk at 0 stall 2 pace 0");
        due.is("one hour", x.hours(1), 2);
        due.is("72 hours", x.hours(72), 48);
        due.is("two acts", x.count(12), 2);
        due.is("the later one", x.undo() && x.count(4) == 0 && x.count(3) == 1, true);
        due.is("late as ahead of it", x.count(10), 2);
        due.is("the earlier one", x.undo() && x.count(3) == 0 && x.count(10) == 0, true);
        due.is("no more", x.undo(), false);
        due.is("hours of nobody", new SeasonWalks().hours(72), 0);
    }

    private static SeasonWalks standing() {
        SeasonWalks x = Tapes.told("monk at 15 stall 3 pace 3 likes ab;monk at 4 stall 0 pace 8 likes a;"
                + "monk at 9 stall 1 likes d;fickle 70;grass 6;hour 2;day 3;store winter 5;mood winter");
        Tapes.law(x, "haste 1 if hungry;slow 1 if season > 2");
        x.seed(9);
        return x;
    }

    /** "ACTS: HOURS; a MONK takes a short way; the BELL is put to a FLAG; ..": each is one that can be UNDONE. */
    private static void eightActs() {
        act("hours", x -> x.hours(72));
        act("cross", x -> x.cross(0));
        act("bell", x -> x.bell(15));
        act("mood", x -> x.mood(0));
        act("change", x -> x.change(0, 2));
        act("pace", x -> x.pace(1, 0));
        act("fill", x -> x.fill(3, 99));
        act("find", x -> x.find(1));
        act("the same bell", x -> x.bell(0));
        act("the same mood", x -> x.mood(3));
        act("the same pace", x -> x.pace(1, 8));
    }

    private static void act(String name, Consumer<SeasonWalks> made) {
        SeasonWalks x = standing();
        x.cross(1);
        int[] before = Snapshot.of(x);
        made.accept(x);
        due.is(name + " is one act", x.count(12), 2);
        due.is(name + " is undone", x.undo(), true);
        same(name, x, before);
        due.is("ahead of " + name, x.undo() && x.monk(1, 0) == 4 && x.monk(1, 4) == 0, true);
        due.is("none ahead of all", x.undo(), false);
    }

    private static void same(String name, SeasonWalks x, int[] before) {
        int[] then = Snapshot.of(x);
        for (int i = 0; i < then.length; i++) {
            due.is("as ahead of " + name + ", " + i, then[i], before[i]);
        }
    }

    /** What is no ACT is not remembered. */
    private static void noActs() {
        SeasonWalks x = standing();
        x.bell(3);
        x.seed(5);
        x.image();
        x.trial(72, true);
        x.span(72, false);
        x.ring();
        x.humour();
        x.share(0, 999);
        x.ahead(0, 72, 0);
        x.trade(0, false);
        Tapes.bytes(x, 3);
        x.road(0, true);
        Tapes.text(x, "keep if");
        due.noNumber("a wrong text", x::law);
        due.is("one act", x.count(12), 1);
        due.is("the bell", x.undo() && x.count(5) == 0, true);
        due.is("no act left", x.undo(), false);
    }

    /** "12 are remembered; an ACT that went as the thirteenth came is remembered no more". */
    private static void twelveActs() {
        SeasonWalks x = new SeasonWalks();
        for (int flag = 1; flag <= 12; flag++) {
            x.bell(flag);
            due.is("acts", x.count(12), flag);
        }
        for (int flag = 11; flag >= 0; flag--) {
            due.is("undone to " + flag, x.undo() && x.count(5) == flag && x.count(12) == flag, true);
        }
        due.is("all twelve are undone", x.undo(), false);
        for (int flag = 1; flag <= 13; flag++) {
            x.bell(flag);
        }
        due.is("thirteen", x.count(12), 12);
        for (int flag = 12; flag >= 1; flag--) {
            due.is("undone to " + flag, x.undo() && x.count(5) == flag, true);
        }
        due.is("the first is remembered no more", x.undo(), false);
        due.is("and stays", x.count(5), 1);
        for (int times = 0; times < 40; times++) {
            x.bell(times % 16);
        }
        due.is("undone, then another", x.undo() && x.bell(9) == 6 && x.count(12) == 12, true);
        for (int left = 11; left >= 0; left--) {
            due.is("undone", x.undo() && x.count(12) == left, true);
        }
        due.is("behind the 28th", x.count(5), 11);
        due.is("no more", x.undo(), false);
    }

    /** A call that throws is no act and lets none go. */
    private static void refusedActs() {
        SeasonWalks x = Tapes.told("monk at 0 stall 0;monk at 1 stall 1");
        for (int flag = 1; flag <= 12; flag++) {
            x.bell(flag);
        }
        due.noNumber("hours", () -> x.hours(73));
        due.outOfBounds("cross", () -> x.cross(2));
        due.outOfBounds("bell", () -> x.bell(16));
        due.noNumber("mood", () -> x.mood(5));
        due.noNumber("change", () -> x.change(1, 1));
        due.noNumber("pace", () -> x.pace(0, 9));
        due.noNumber("fill", () -> x.fill(0, 100));
        due.fails("find", IllegalStateException.class, () -> x.find(0));
        due.is("twelve yet", x.count(12), 12);
        for (int flag = 11; flag >= 0; flag--) {
            due.is("undone to " + flag, x.undo() && x.count(5) == flag, true);
        }
        due.is("all twelve", x.undo(), false);
    }

    /** "A text, going back: none are remembered." */
    private static void actsForgotten() {
        SeasonWalks x = standing();
        x.bell(1);
        Tapes.cloister(x, "");
        due.is("none behind a text", x.count(12) == 0 && !x.undo() && x.count(5) == 1, true);
        x.bell(2);
        Tapes.law(x, "");
        due.is("none behind a law", x.count(12) == 0 && !x.undo() && x.count(5) == 2, true);
        x.bell(3);
        x.image();
        due.is("an image forgets none", x.count(12), 1);
        x.bell(4);
        x.back();
        due.is("none behind going back", x.count(12) == 0 && !x.undo() && x.count(5) == 3, true);
        x.bell(5);
        Tapes.text(x, "bell");
        due.noNumber("a wrong text", x::cloister);
        Tapes.text(x, "keep if");
        due.noNumber("a wrong law", x::law);
        due.is("one behind wrong ones", x.count(12) == 1 && x.undo() && x.count(5) == 3, true);
        SeasonWalks y = Tapes.told("bell 7");
        for (int texts = 2; texts <= 12; texts++) {
            Tapes.cloister(y, "");
        }
        y.bell(8);
        due.fails("one too many", UnsupportedOperationException.class, y::cloister);
        due.is("one behind a refused one", y.count(12) == 1 && y.undo() && y.count(5) == 7, true);
    }

    /** "all is as ahead of it (but for the TAPE, fault(), THE IMAGE ..)". */
    private static void undoneButFor() {
        SeasonWalks x = standing();
        x.bell(1);
        x.image();
        x.bell(2);
        Tapes.text(x, "keep if");
        due.noNumber("a wrong law", x::law);
        x.feed(0x0405_0607, 0, 0, 0, 0);
        x.end(3);
        int seed = x.seed(77);
        due.is("undone", x.undo() && x.count(5) == 1, true);
        due.is("the seed as ahead of it", x.seed(seed), seed);
        due.is("fault() stays", x.fault(), 7);
        due.is("the tape stays", x.end(3) && !x.end(4) && x.road(4, false) == 2, true);
        x.undo();
        due.is("the image stays", x.back() && x.count(5) == 1, true);
    }

    /** "THE IMAGE (one) of all may be kept, and gone back to (but for the TAPE, fault() and THE IMAGE itself)". */
    private static void imageOfAll() {
        SeasonWalks x = standing();
        x.hours(9);
        x.cross(1);
        x.image();
        int[] before = Snapshot.of(x);
        before[Snapshot.ACTS] = 0;
        x.hours(72);
        x.seed(1);
        Tapes.cloister(x, "monk at 0 stall 9;fickle 0;grass 0;day 0;hour 0;bell 9;store spring 999");
        Tapes.law(x, "keep");
        x.change(0, 1);
        x.cross(1);
        Tapes.text(x, "bell");
        due.noNumber("a wrong text", x::cloister);
        x.feed(0x0405_0607, 0, 0, 0, 0);
        x.end(2);
        due.is("back", x.back(), true);
        due.is("the tape stays", x.end(2) && !x.end(3) && x.road(4, false) == 1, true);
        due.is("fault() stays", x.fault(), 4);
        before[Snapshot.FAULT] = 4;
        same("the image", x, before);
        due.is("the law of then", x.count(2) == 2 && x.monk(1, 8) > 0, true);
        x.hours(1);
        due.is("back once more", x.back(), true);
        same("the image again", x, before);
        x.bell(4);
        x.image();
        x.bell(5);
        due.is("one image alone", x.back() && x.count(5) == 4, true);
    }

    /** "false, and nothing happens, if none was kept". */
    private static void noImage() {
        SeasonWalks x = standing();
        x.bell(4);
        x.feed(0x0405_0607, 0, 0, 0, 0);
        int[] before = Snapshot.of(x);
        due.is("none", x.back(), false);
        same("no going back", x, before);
        due.is("the tape stays", x.end(20), true);
        due.is("the act stays", x.undo() && x.count(5) == 0, true);
        SeasonWalks y = new SeasonWalks();
        y.image();
        Tapes.cloister(y, "monk at 0 stall 0");
        Tapes.law(y, "");
        due.is("back to nobody", y.back() && y.count(0) == 0 && y.count(1) == 0, true);
        due.is("and to no law", y.count(2), NONE);
    }

    /** "An object is used for at most 512 calls after it has been made": all of them answer. */
    private static void fiveHundredAndTwelveCalls() {
        SeasonWalks x = new SeasonWalks();
        x.feed(0x6461_7920, 0x3939_3900, 0, 0, 0);
        x.end(7);
        x.cloister();
        for (int calls = 4; calls <= 510; calls++) {
            x.hours(72);
        }
        due.is("call 511", x.count(4), 999 + 3 * 507);
        due.is("call 512", x.undo(), true);
        SeasonWalks y = new SeasonWalks();
        for (int calls = 1; calls <= 511; calls++) {
            y.bell(calls % 16);
        }
        due.is("the last of 512", y.bell(0), 511 % 16);
        SeasonWalks z = new SeasonWalks();
        for (int calls = 1; calls <= 511; calls++) {
            z.feed(calls, 0, 0, 0, 0);
        }
        due.is("a full tape in the last of 512", z.feed(0, 0, 0, 0, 0), NONE);
    }
}

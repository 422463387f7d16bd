import java.util.NoSuchElementException;
import java.util.function.Function;

/**
 * Each call that the document refuses, at the first values that are not allowed, and what stands unchanged behind it:
 * an object that had the refused call is held against a twin that had none.
 */
public final class RefusalTests {
    private static final int NONE = SeasonWalks.NONE;
    private static final int LEAST = Integer.MIN_VALUE;
    private static final int MOST = Integer.MAX_VALUE;
    private static final Due due = new Due("refusals");

    private RefusalTests() {
    }

    public static void main(String[] args) {
        noSuchMonk();
        noSuchMonkFirst();
        noSuchPlace();
        noSuchPlaceFirst();
        noSuchMonth();
        noNumbers();
        twoAreOne();
        noSuchWhat();
        cannotBe();
        tapeIsNotThat();
        textsAreWrong();
        thirteenthText();
        answersOfNothing();
        lastAllowed();
        due.close();
    }

    /** Three monks, the second one LOST; a law, four acts, an image, rows in the log, a fault and a flag on the tape. */
    private static SeasonWalks standing() {
        SeasonWalks x = Tapes.told("monk at 15 stall 3 pace 3 likes ab;monk at 4 stall 0 pace 4 likes a;"
                + "monk at 9 stall 11 likes dl;fickle 70;grass 6;hour 2;day 3;store winter 1");
        Tapes.law(x, "haste 1 if hungry;slow 1 if season > 2");
        x.hours(5);
        x.cross(1);
        x.image();
        x.bell(3);
        x.mood(2);
        x.seed(4711);
        Tapes.text(x, "keep if");
        due.noNumber("a fault to keep", x::law);
        x.feed(0x0700_0000, 0, 0, 0, 0);
        x.end(1);
        return x;
    }

    private static void refused(String name, Class<? extends Exception> want, Function<SeasonWalks, Object> call) {
        SeasonWalks x = standing();
        due.fails(name, want, () -> call.apply(x));
        sameAsTwin(name, x);
    }

    /** The tape with its one flag is as it was, and so is all that stands. */
    private static void sameAsTwin(String name, SeasonWalks x) {
        due.is("the tape behind " + name, x.end(1) && !x.end(2) && x.road(7, true) == 7, true);
        sameButTape(name, x, standing().fault());
    }

    private static void sameButTape(String name, SeasonWalks x, int fault) {
        SeasonWalks twin = standing();
        same(name, x, twin, fault);
        while (twin.undo()) {
            due.is("undo behind " + name, x.undo(), true);
            same("an undo behind " + name, x, twin, fault);
        }
        due.is("no more acts behind " + name, x.undo(), false);
        due.is("the image behind " + name, x.back() && twin.back(), true);
        same("the image behind " + name, x, twin, fault);
    }

    private static void same(String name, SeasonWalks x, SeasonWalks twin, int fault) {
        int[] got = Snapshot.of(x);
        int[] want = Snapshot.of(twin);
        want[Snapshot.FAULT] = fault;
        for (int i = 0; i < want.length; i++) {
            due.is("behind " + name + ", " + i, got[i], want[i]);
        }
    }

    private static void bounds(String name, Function<SeasonWalks, Object> call) {
        refused(name, IndexOutOfBoundsException.class, call);
    }

    private static void number(String name, Function<SeasonWalks, Object> call) {
        refused(name, IllegalArgumentException.class, call);
    }

    private static void state(String name, Function<SeasonWalks, Object> call) {
        refused(name, IllegalStateException.class, call);
    }

    private static void what(String name, Function<SeasonWalks, Object> call) {
        refused(name, NoSuchElementException.class, call);
    }

    /** "IndexOutOfBoundsException: there is no such MONK": -1 and, of three, 3. */
    private static void noSuchMonk() {
        for (int monk : new int[] {-1, 3, 7, LEAST, MOST}) {
            bounds("monk " + monk, x -> x.monk(monk, 0));
            bounds("cross " + monk, x -> x.cross(monk));
            bounds("change " + monk, x -> x.change(monk, 0));
            bounds("change with " + monk, x -> x.change(0, monk));
            bounds("pace " + monk, x -> x.pace(monk, 0));
            bounds("find " + monk, x -> x.find(monk));
            bounds("when " + monk, x -> x.when(monk, 0));
            bounds("meet " + monk, x -> x.meet(monk, 0));
            bounds("meet with " + monk, x -> x.meet(0, monk));
            bounds("trade " + monk, x -> x.trade(monk, false));
            bounds("ring of " + monk, x -> x.trade(monk, true));
            bounds("swings " + monk, x -> x.swings(monk));
            bounds("rests " + monk, x -> x.rests(monk));
            bounds("ahead " + monk, x -> x.ahead(monk, 0, 0));
            bounds("led " + monk, x -> x.led(monk, false));
            bounds("led to a flag " + monk, x -> x.led(monk, true));
        }
        for (int monk : new int[] {-2, 3, 7, LEAST, MOST}) {
            bounds("seats " + monk, x -> x.seats(monk));
            bounds("pairs " + monk, x -> x.pairs(monk));
        }
    }

    /** "Of several exceptions the one told first is thrown": the MONK ahead of all else. */
    private static void noSuchMonkFirst() {
        bounds("monk 3 of what 10", x -> x.monk(3, 10));
        bounds("change of 3 with 3", x -> x.change(3, 3));
        bounds("change of -1 with -1", x -> x.change(-1, -1));
        bounds("pace 9 of 3", x -> x.pace(3, 9));
        bounds("pace -1 of -1", x -> x.pace(-1, -1));
        bounds("when of 3 at 16", x -> x.when(3, 16));
        bounds("meet of 3 and 3", x -> x.meet(3, 3));
        bounds("meet of -1 and -1", x -> x.meet(-1, -1));
        bounds("ahead of 3 by 73", x -> x.ahead(3, 73, 0));
        bounds("ahead of 3 what 3", x -> x.ahead(3, 0, 3));
        bounds("ahead of -1 by -1 what -1", x -> x.ahead(-1, -1, -1));
        number("ahead by 73 what 3", x -> x.ahead(0, 73, 3));
        number("ahead by -1 what -1", x -> x.ahead(0, -1, -1));
    }

    /** "there is no such .. FLAG, WALK": -1 and 16, -1 and 4. */
    private static void noSuchPlace() {
        for (int flag : new int[] {-1, 16, LEAST, MOST}) {
            bounds("season " + flag, x -> x.season(flag));
            bounds("bell " + flag, x -> x.bell(flag));
            bounds("when at " + flag, x -> x.when(0, flag));
            bounds("far from " + flag, x -> x.far(flag, 0));
            bounds("far to " + flag, x -> x.far(0, flag));
        }
        for (int walk : new int[] {-1, 4, LEAST, MOST}) {
            bounds("store " + walk, x -> x.store(walk));
            bounds("fill " + walk, x -> x.fill(walk, 1));
            bounds("share " + walk, x -> x.share(walk, 1));
            bounds("feeds " + walk, x -> x.feeds(walk));
        }
    }

    /** The FLAG or the WALK ahead of the number. */
    private static void noSuchPlaceFirst() {
        bounds("fill 4 by 0", x -> x.fill(4, 0));
        bounds("fill -1 by 100", x -> x.fill(-1, 100));
        bounds("share 4 of 1000", x -> x.share(4, 1000));
        bounds("share -1 of -1", x -> x.share(-1, -1));
        bounds("far 16 and -1", x -> x.far(16, -1));
    }

    /** "there is no such month": -1 and 12. */
    private static void noSuchMonth() {
        for (int month : new int[] {-1, 12, LEAST, MOST}) {
            bounds("serves " + month, x -> x.serves(month));
        }
    }

    /** "IllegalArgumentException: a number is none": the first below and the first above. */
    private static void noNumbers() {
        for (int n : new int[] {0, 73, -1, LEAST, MOST}) {
            number("hours " + n, x -> x.hours(n));
        }
        for (int n : new int[] {0, 100, -1, LEAST, MOST}) {
            number("fill by " + n, x -> x.fill(3, n));
        }
        for (int n : new int[] {-1, LEAST, MOST}) {
            number("mood " + n, x -> x.mood(n));
            number("pace to " + n, x -> x.pace(0, n));
            number("lates " + n, x -> x.lates(n));
            number("share of " + n, x -> x.share(0, n));
            number("odds of " + n, x -> x.odds(n, 0));
            number("odds of " + n + " times", x -> x.odds(0, n));
            number("round " + n, x -> x.round(n));
            number("ahead by " + n, x -> x.ahead(0, n, 0));
            number("trial " + n, x -> x.trial(n, false));
            number("span " + n, x -> x.span(n, false));
        }
        number("mood 5", x -> x.mood(5));
        number("pace 9", x -> x.pace(2, 9));
        number("lates 10", x -> x.lates(10));
        number("share of 1000", x -> x.share(3, 1000));
        number("odds of 7", x -> x.odds(7, 6));
        number("odds of 7 times", x -> x.odds(6, 7));
        number("odds of 7 in 7", x -> x.odds(7, 7));
        number("round 1000", x -> x.round(1000));
        number("ahead by 73", x -> x.ahead(2, 73, 2));
        number("trial 73", x -> x.trial(73, true));
        number("span 73", x -> x.span(73, true));
    }

    /** "IllegalArgumentException: .. two are one." */
    private static void twoAreOne() {
        for (int monk = 0; monk < 3; monk++) {
            int one = monk;
            number("change of one", x -> x.change(one, one));
            number("meet of one", x -> x.meet(one, one));
        }
    }

    /** "NoSuchElementException: another what." */
    private static void noSuchWhat() {
        for (int other : new int[] {-1, 10, LEAST, MOST}) {
            what("monk what " + other, x -> x.monk(0, other));
        }
        for (int other : new int[] {-1, 3, LEAST, MOST}) {
            what("ahead what " + other, x -> x.ahead(0, 72, other));
        }
        for (int other : new int[] {-1, 5, LEAST, MOST}) {
            what("log what " + other, x -> x.log(0, other));
            what("log of none what " + other, x -> x.log(60, other));
            what("log ahead of all what " + other, x -> x.log(-1, other));
        }
    }

    /** "IllegalStateException: it cannot be": over the grass while LOST, found while not LOST. */
    private static void cannotBe() {
        state("cross of a lost one", x -> x.cross(1));
        state("find of the first", x -> x.find(0));
        state("find of the last", x -> x.find(2));
    }

    /** A refused call that uses the TAPE up: all stands but for the TAPE. */
    private static void usesTape(String name, Class<? extends Exception> want, Function<SeasonWalks, Object> call,
            int... tape) {
        SeasonWalks x = standing();
        x.end(0);
        Tapes.bytes(x, tape);
        due.fails(name, want, () -> call.apply(x));
        due.is("used up by " + name, x.end(1), false);
        sameButTape(name, x, standing().fault());
    }

    private static void wrongTape(String name, Function<SeasonWalks, Object> call, int... tape) {
        usesTape(name, IllegalArgumentException.class, call, tape);
    }

    /** "Uses the TAPE up .. IllegalArgumentException: the TAPE is not that." */
    private static void tapeIsNotThat() {
        for (int flag : new int[] {-1, 16, LEAST, MOST}) {
            usesTape("road from " + flag, IndexOutOfBoundsException.class, x -> x.road(flag, false), 3);
            usesTape("wrong road from " + flag, IndexOutOfBoundsException.class, x -> x.road(flag, true), 16);
        }
        wrongTape("road by 16", x -> x.road(0, false), 15, 16);
        wrongTape("road by eight", x -> x.road(0, true), 0, 1, 2, 3, 4, 5, 6, 7);
        wrongTape("road by one twice", x -> x.road(0, true), 0, 15, 0);
        for (boolean second : new boolean[] {false, true}) {
            wrongTape("seen of an odd one", x -> x.seen(second), 0, 1, 0);
            wrongTape("seen of 42 bytes", x -> x.seen(second), new int[42]);
            wrongTape("seen at 24", x -> x.seen(second), 23, 1, 24, 1);
            wrongTape("seen 2", x -> x.seen(second), 0, 2);
            wrongTape("rule of an odd one", x -> x.rule(second), 0, 1, 0);
            wrongTape("rule of 42 bytes", x -> x.rule(second), new int[42]);
            wrongTape("rule at 24", x -> x.rule(second), 23, 4, 24, 4);
            wrongTape("rule 5", x -> x.rule(second), 0, 5);
        }
        wrongTape("ask of an odd one", x -> x.ask(), 0);
        wrongTape("ask of 42 bytes", x -> x.ask(), new int[42]);
        wrongTape("ask at 24", x -> x.ask(), 24, 0);
        wrongTape("ask 2", x -> x.ask(), 0, 2);
        wrongTape("tells of an odd one", x -> x.tells(), 0);
        wrongTape("tells of 42 bytes", x -> x.tells(), new int[42]);
        wrongTape("tells at 24", x -> x.tells(), 24, 0);
        wrongTape("tells 5", x -> x.tells(), 0, 5);
    }

    private static void wrongText(String text, boolean ofLaw, int fault) {
        SeasonWalks x = standing();
        x.end(0);
        Tapes.text(x, text);
        due.noNumber(text, () -> ofLaw ? x.law() : x.cloister());
        due.is("fault of " + text, x.fault(), fault);
        due.is("used up by " + text, x.end(1), false);
        sameButTape(text, x, fault);
    }

    /** "a call that throws changes nothing but the TAPE, where it is used up, and fault(), where a text is read". */
    private static void textsAreWrong() {
        wrongText("monk at 0 stall 9;bell 9;mood spring;fickle 9;grass 9;store spring 9;hour 9;day 9;", false, 82);
        wrongText("monk at 0 stall 3", false, 16);
        wrongText("monk at 0 stall 1;monk at 0 stall 2;monk at 0 stall 4;monk at 0 stall 5;monk at 0 stall 6", false, 72);
        wrongText("day 1" + ";day 2".repeat(14), false, 84);
        wrongText("keep", false, 0);
        wrongText("keep;keep;keep;keep if", true, 22);
        wrongText("keep" + ";keep".repeat(12), true, 60);
        wrongText("bell 1", true, 0);
    }

    /** "UnsupportedOperationException: there are 12": fault() is that of the text, the TAPE is used up, no more. */
    private static void thirteenthText() {
        SeasonWalks x = standing();
        SeasonWalks twin = standing();
        for (SeasonWalks one : new SeasonWalks[] {x, twin}) {
            one.end(0);
            for (int texts = 2; texts <= 12; texts++) {
                Tapes.cloister(one, "");
            }
            one.bell(9);
            one.fill(0, 5);
        }
        Tapes.text(x, "monk at 0 stall 9;bell 8;mood spring;fickle 9;grass 9;store spring 9;hour 9;day 9");
        due.fails("a thirteenth", UnsupportedOperationException.class, x::cloister);
        due.is("used up", x.end(1), false);
        same("a thirteenth", x, twin, NONE);
        due.is("its acts stay", x.undo() && twin.undo(), true);
        same("undo behind a thirteenth", x, twin, NONE);
        due.is("the image stays", x.back() && twin.back(), true);
        same("back behind a thirteenth", x, twin, NONE);
    }

    private static void unchanged(String name, Function<SeasonWalks, Object> call, Object want) {
        SeasonWalks x = standing();
        due.is(name, call.apply(x), want);
        sameAsTwin(name, x);
    }

    /** What answers false or NONE and does nothing. */
    private static void answersOfNothing() {
        unchanged("end of 2", x -> x.end(2), false);
        unchanged("end of -1", x -> x.end(-1), false);
        unchanged("end of the least", x -> x.end(LEAST), false);
        unchanged("end of the most", x -> x.end(MOST), false);
        unchanged("count 13", x -> x.count(13), NONE);
        unchanged("count -1", x -> x.count(-1), NONE);
        unchanged("log of 60", x -> x.log(60, 0), NONE);
        unchanged("log of -1", x -> x.log(-1, 4), NONE);
        unchanged("rests of a lost one", x -> x.rests(1), NONE);
        unchanged("chapter of none", x -> x.chapter(-8), false);
        SeasonWalks x = new SeasonWalks();
        for (int times = 0; times < 20; times++) {
            x.feed(0x2020_2020, 0x2020_2020, 0x2020_2020, 0x2020_2020, 0x2020_2020);
        }
        due.is("a full tape", x.feed(1, 1, 1, 1, 1), NONE);
        due.is("blanks alone are on it", x.cloister(), 1);
    }

    /** The last values that are allowed go through, and those that only ask change nothing. */
    private static void lastAllowed() {
        unchanged("far of the ends", x -> x.far(15, 0), 1);
        unchanged("season of the last", x -> x.season(15), 2);
        unchanged("season of the first", x -> x.season(0), 2);
        unchanged("odds of all", x -> x.odds(6, 6), 1176);
        unchanged("round of the most", x -> x.round(999), 0);
        unchanged("round of the least", x -> x.round(0), 7);
        unchanged("lates of none", x -> x.lates(0), 0);
        unchanged("who serves the last month", x -> x.serves(11), 4);
        unchanged("who serves the first month", x -> x.serves(0), 3);
        unchanged("seats of all", x -> x.seats(NONE), 3);
        unchanged("pairs of all", x -> x.pairs(NONE), 1);
        unchanged("share of 0", x -> x.share(3, 0) - x.store(3), 0);
        unchanged("the last monk and what", x -> x.monk(2, 4), 0);
        SeasonWalks x = standing();
        x.end(0);
        due.is("hours", x.hours(1) >= 0 && x.hours(72) >= 0, true);
        due.is("fill", x.fill(0, 1) < x.fill(0, 99), true);
        due.is("mood", x.mood(0) >= 0 && x.mood(4) == 0, true);
        due.is("pace", x.pace(2, 0) == 2 && x.pace(2, 8) == 0, true);
        due.is("bell", x.bell(15) == 3 && x.bell(0) == 15, true);
        due.is("lates", x.lates(9) >= 0, true);
        due.is("share", x.share(3, 999) > 0, true);
        due.is("ahead", x.ahead(2, 72, 2) >= 0 && x.ahead(2, 0, 0) == x.monk(2, 0), true);
        due.is("trial", x.trial(72, false) >= x.trial(0, false), true);
        due.is("span", x.span(72, true) >= x.span(0, false), true);
        due.is("monk", x.monk(2, 9) >= 0 && x.log(0, 4) >= 0, true);
        due.is("change", x.change(2, 0) == 3 && x.change(0, 2) == 3, true);
        due.is("meet", x.meet(0, 2) == x.meet(2, 0), true);
    }
}

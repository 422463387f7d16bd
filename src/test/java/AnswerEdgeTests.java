/** The edges of what is answered of a cloister (the document's third chapter of terms), by its sentences. */
public final class AnswerEdgeTests {
    private static final int NONE = SeasonWalks.NONE;
    private static final String[] SEASONS = {"spring", "summer", "autumn", "winter"};
    private static final Due due = new Due("edges of answers");

    private AnswerEdgeTests() {
    }

    public static void main(String[] args) {
        inChoir();
        whenWithinHours();
        meetWithinHours();
        latesOfOffices();
        latesAsHoursGo();
        tardyOfEight();
        ringOfEight();
        humourOfFive();
        starvesWithinHours();
        farByGrass();
        roads();
        roadsOfEqualLength();
        seats();
        shownFewest();
        servedMonths();
        tradeRound();
        tradeByYear();
        contents();
        seenPairs();
        asked();
        rules();
        told();
        shares();
        feedsRoundedDown();
        pairsOfMonths();
        pairsOfSeven();
        watchesOfTwoFlags();
        chapters();
        swingsAndElder();
        restsOfChoices();
        oddsOfHours();
        emptyAndThrong();
        goneAndRound();
        hungriests();
        alikePairs();
        lags();
        aheadOfHours();
        trials();
        spansOfSixSeeds();
        ledFlags();
        counted();
        fullCloister();
        noTrace();
        noDraws();
        due.close();
    }

    private static String seven(String behind) {
        StringBuilder text = new StringBuilder();
        for (int m = 0; m < 7; m++) {
            text.append(m == 0 ? "" : ";").append("monk at 0 stall ").append(m).append(behind);
        }
        return text.toString();
    }

    /** "MONKS who are at the BELL and not LOST, as bits." */
    private static void inChoir() {
        due.is("nobody", new SeasonWalks().choir(), 0);
        SeasonWalks x = Tapes.told(seven(" pace 0") + ";grass 1;hour 1");
        due.is("all", x.choir(), 127);
        x.bell(8);
        due.is("none", x.choir(), 0);
        x.cross(6);
        due.is("a lost one at the bell", x.choir(), 0);
        x.hours(1);
        due.is("the last one, found", x.choir(), 64);
        x.bell(15);
        due.is("beside the bell", x.choir(), 0);
    }

    /** "WHEN: the first N (0 to 72) AHEAD by which he is there, not LOST; none." He goes on at the HOUR 0 alone. */
    private static void whenWithinHours() {
        String once = "monk at 15 stall 0 pace 1;mood spring;hour ";
        SeasonWalks x = ruled(once + 1, "keep if hour>0");
        due.is("now", x.when(0, 15), 0);
        due.is("over the end", x.when(0, 0), 24);
        due.is("at the last", x.when(0, 2), 72);
        due.is("behind the last", x.when(0, 3), NONE);
        SeasonWalks y = ruled(once + 0, "keep if hour>0");
        due.is("at once", y.when(0, 0), 1);
        due.is("an hour behind the last", y.when(0, 3), NONE);
        due.is("well within", y.when(0, 2), 49);
        due.is("never", ruled(once + 1, "keep").when(0, 14), NONE);
        SeasonWalks z = ruled("monk at 15 stall 0 pace 1;grass 20", "");
        z.cross(0);
        due.is("where he is lost", z.when(0, 7), 20);
        due.is("behind being lost", z.when(0, 8), 21);
        z.find(0);
        due.is("where he is found", z.when(0, 7), 0);
        due.is("nothing stays", z.monk(0, 0) * 100 + z.count(3) * 10 + z.count(12), 702);
    }

    private static SeasonWalks ruled(String text, String law) {
        SeasonWalks x = Tapes.told(text);
        Tapes.law(x, law);
        return x;
    }

    /** "MEET: the first N (0 to 72) AHEAD by which both are at one FLAG, neither LOST; none." */
    private static void meetWithinHours() {
        String two = "monk at 15 stall 0 pace 1;monk at 2 stall 1 pace 0;grass 20;mood spring;hour ";
        SeasonWalks x = ruled(two + 1, "keep if hour>0");
        due.is("at the last", x.meet(0, 1) * 100 + x.meet(1, 0), 7272);
        due.is("an hour behind the last", ruled(two.replace("at 2", "at 3") + 0, "keep if hour>0").meet(0, 1), NONE);
        due.is("an hour less", ruled(two + 2, "keep if hour>0").meet(0, 1), 71);
        SeasonWalks y = Tapes.told("monk at 15 stall 0 pace 0;monk at 15 stall 1 pace 0;grass 20");
        due.is("now", y.meet(0, 1), 0);
        y.cross(0);
        due.is("apart", y.meet(0, 1), NONE);
        y.cross(1);
        due.is("both lost", y.meet(0, 1) * 100 + y.meet(1, 0), 2020);
        y.find(0);
        due.is("one lost", y.meet(0, 1) * 100 + y.meet(1, 0), 2020);
        y.find(1);
        due.is("neither lost", y.meet(0, 1), 0);
    }

    /** "LATES of N OFFICES (0 to 9): .. in the next N OFFICES AHEAD (from HOUR on)". */
    private static void latesOfOffices() {
        for (int hour = 0; hour < 24; hour++) {
            SeasonWalks x = Tapes.told("monk at 1 stall 0 pace 0;monk at 2 stall 1 pace 0;hour " + hour);
            for (int n = 0; n <= 9; n++) {
                due.is(n + " offices from " + hour, x.lates(n), 2 * n);
            }
        }
        due.is("of nobody", new SeasonWalks().lates(9), 0);
        SeasonWalks x = Tapes.told("monk at 1 stall 0 pace 0");
        for (int times = 0; times < 42; times++) {
            x.hours(72);
        }
        due.is("late at most already", x.monk(0, 5) * 10 + x.lates(9), 9999);
    }

    /** The same by hours that do pass: he who walks is now in time, now late. */
    private static void latesAsHoursGo() {
        for (int hour = 0; hour < 24; hour++) {
            String text = "monk at 9 stall 0 pace 4;monk at 2 stall 1 pace 3;bell 1;mood spring;hour " + hour;
            for (int n = 1; n <= 9; n++) {
                SeasonWalks x = Tapes.told(text);
                int foreseen = x.lates(n);
                due.is("nothing stays", x.count(10) + x.count(11) + x.count(12), 0);
                due.is(n + " from " + hour, foreseen, x.hours((3 - hour % 3) % 3 + 3 * n - 2));
            }
        }
    }

    /** "TARDY: who is LATE the most in the next 8 (of several the least; none, if nobody)". */
    private static void tardyOfEight() {
        due.is("of nobody", new SeasonWalks().tardy(), NONE);
        due.is("nobody", Tapes.told(seven(" pace 0")).tardy(), NONE);
        SeasonWalks x = Tapes.told(seven(" pace 0") + ";bell 1");
        due.is("of several the least", x.tardy(), 0);
        x.cross(6);
        x.find(6);
        x.bell(0);
        due.is("the last", x.tardy(), 6);
        x.cross(5);
        x.find(5);
        due.is("the least of two", x.tardy(), 5);
        SeasonWalks y = Tapes.told("monk at 1 stall 0 pace 0;monk at 0 stall 1 pace 0");
        y.hours(72);
        y.bell(1);
        due.is("in the next, not ever", y.tardy(), 1);
        SeasonWalks z = ruled("monk at 0 stall 0 pace 1", "keep if hour<21 or hour>21");
        due.is("late in the eighth", z.tardy(), 0);
        Tapes.law(z, "keep if hour<22 or hour>22");
        due.is("late in the ninth alone", z.tardy(), NONE);
        due.is("the ninth", z.lates(9) * 10 + z.lates(8), 10);
    }

    /** "RING: the FLAG for the BELL by which LATES of 8 is the least (of several the least)". */
    private static void ringOfEight() {
        due.is("of nobody", new SeasonWalks().ring(), 0);
        due.is("the last flag", Tapes.told("monk at 15 stall 0 pace 0;bell 3").ring(), 15);
        due.is("the least of two", Tapes.told("monk at 15 stall 0 pace 0;monk at 14 stall 1 pace 0").ring(), 14);
        due.is("the most of three", Tapes.told("monk at 1 stall 0 pace 0;monk at 15 stall 1 pace 0;"
                + "monk at 15 stall 2 pace 0").ring(), 15);
        // Four offices at 9, then four at 5, or the other way round; a ninth would be at the later one.
        due.is("eight, not nine", ruled("monk at 5 stall 0 pace 4", "keep if hour<10 or hour>10").ring(), 5);
        due.is("eight, not seven", ruled("monk at 9 stall 0 pace 8",
                "slow 4;keep if not(9<hour and hour<13)").ring(), 5);
        SeasonWalks x = Tapes.told("monk at 7 stall 0 pace 0;grass 20");
        x.cross(0);
        due.is("lost for seven offices", x.ring(), 15);
        due.is("nothing stays", x.count(5) * 10 + x.count(12), 1);
    }

    /** "HUMOUR: the MOOD (0 to 4) by which it is (of several the least)". */
    private static void humourOfFive() {
        due.is("of nobody", new SeasonWalks().humour(), 0);
        due.is("all alike", Tapes.told("monk at 3 stall 0 pace 0;mood winter").humour(), 0);
        for (int mood = 1; mood < 4; mood++) {
            int flag = 4 * ((mood + 1) % 4);
            SeasonWalks x = ruled("monk at " + flag + " stall 0 pace 8;bell " + flag,
                    "keep if season>" + (mood - 1) + " and season<" + (mood + 1));
            due.is("kept by the mood " + mood, x.humour(), mood);
        }
        // By the mood 1 the first one stays at the flag 4, by the mood 0 the second one at 0.
        SeasonWalks y = ruled("monk at 4 stall 0 pace 8;monk at 0 stall 1 pace 8;bell 4",
                "keep if stall<1 and season>0 and season<2;keep if stall>0 and season<1");
        due.is("the first one stays", y.humour(), 1);
        y.bell(0);
        due.is("the second one stays", y.humour(), 0);
        SeasonWalks z = ruled("monk at 12 stall 0 pace 4;mood spring", "keep if season<3");
        due.is("own mood", z.humour(), 4);
        due.is("nothing stays", z.count(6) * 10 + z.count(12), 0);
    }

    /** "STARVES: the first N (0 to 72) AHEAD by which somebody has HUNGER above 0; none." */
    private static void starvesWithinHours() {
        due.is("of nobody", new SeasonWalks().starves(), NONE);
        String one = "monk at 0 stall 0 pace 0;store spring ";
        due.is("at once", Tapes.told(one + 0).starves(), 1);
        due.is("then", Tapes.told(one + 1).starves(), 2);
        due.is("at the last", Tapes.told(one + 71).starves(), 72);
        due.is("behind the last", Tapes.told(one + 72).starves(), NONE);
        SeasonWalks x = Tapes.told(one + 0 + ";monk at 8 stall 1 pace 0;store autumn 99;grass 20");
        x.hours(1);
        due.is("now", x.starves(), 0);
        x.cross(0);
        due.is("a lost one is somebody", x.starves(), 0);
        due.is("nothing stays", x.monk(0, 6) * 10 + x.count(3), 11);
    }

    /** "FAR: the fewest steps .., or over the grass (to the FLAG 8 on), which counts GRASS (1 at least)". */
    private static void farByGrass() {
        fars(0, 0, 1, 2, 3, 4, 4, 3, 2, 1);
        fars(1, 0, 1, 2, 3, 4, 4, 3, 2, 1);
        fars(2, 0, 1, 2, 3, 4, 5, 4, 3, 2);
        fars(4, 0, 1, 2, 3, 4, 5, 6, 5, 4);
        fars(6, 0, 1, 2, 3, 4, 5, 6, 7, 6);
        fars(7, 0, 1, 2, 3, 4, 5, 6, 7, 7);
        fars(8, 0, 1, 2, 3, 4, 5, 6, 7, 8);
        fars(20, 0, 1, 2, 3, 4, 5, 6, 7, 8);
    }

    private static void fars(int grass, int... want) {
        SeasonWalks x = Tapes.told("grass " + grass);
        for (int flag = 0; flag < 16; flag++) {
            for (int on = 0; on < 16; on++) {
                int far = want[on <= 8 ? on : 16 - on];
                due.is("far of " + flag + " and " + on + " on", x.far(flag, (flag + on) % 16), far);
            }
        }
    }

    /** "ROAD by told FLAGS (bytes 0 to 15, at most 7, none twice), in any order ..; NEXT ..; none without." */
    private static void roads() {
        SeasonWalks x = new SeasonWalks();
        due.is("none told", x.road(15, false), 0);
        due.is("none next", x.road(15, true), NONE);
        road(x, 0, 0, 0, 0);
        road(x, 15, 1, 0, 0);
        road(x, 0, 1, 15, 15);
        road(x, 14, 7, 15, 15, 0, 1, 2, 3, 4, 5);
        road(x, 6, 7, 5, 5, 4, 3, 2, 1, 0, 15);
        road(x, 0, 4, 8, 8);
        road(x, 0, 6, 1, 9, 1, 10);
        badRoad(x, 16);
        badRoad(x, 0, 1, 2, 3, 4, 5, 6, 7);
        badRoad(x, 3, 3);
        badRoad(x, 0, 0);
        badRoad(x, 15, 1, 2, 3, 4, 5, 15);
        badRoad(x, 127);
        badRoad(x, 128);
        badRoad(x, 255);
        Tapes.bytes(x, 3);
        due.outOfBounds("from 16", () -> x.road(16, false));
        due.is("used up", x.end(1), false);
        Tapes.bytes(x, 99);
        due.outOfBounds("from -1, by no flag", () -> x.road(-1, false));
        due.is("used up, too", x.end(1), false);
    }

    /** "NEXT: the first FLAG of the first such order (by the first unlike one, the lesser)". */
    private static void roadsOfEqualLength() {
        SeasonWalks x = Tapes.told("grass 20");
        road(x, 0, 3, 1, 1, 15);
        road(x, 0, 3, 1, 15, 1);
        road(x, 8, 3, 7, 9, 7);
        road(x, 0, 6, 2, 14, 2);
        road(x, 0, 5, 15, 3, 15);
        road(x, 4, 8, 4, 12, 3, 4);
        road(x, 0, 8, 8, 8);
    }

    private static void road(SeasonWalks x, int from, int way, int next, int... flags) {
        Tapes.bytes(x, flags);
        due.is("road from " + from, x.road(from, false), way);
        due.is("used up", x.end(1), false);
        Tapes.bytes(x, flags);
        due.is("next from " + from, x.road(from, true), next);
    }

    private static void badRoad(SeasonWalks x, int... flags) {
        Tapes.bytes(x, flags);
        due.noNumber("bad road", () -> x.road(0, false));
        due.is("used up", x.end(1), false);
        Tapes.bytes(x, flags);
        due.noNumber("bad next", () -> x.road(15, true));
        due.is("used up", x.end(1), false);
    }

    private static void ways(String name, int[] got, int... want) {
        for (int m = 0; m < want.length; m++) {
            due.is(name + " of " + m, got[m], want[m]);
        }
    }

    private static int[] seatsOf(SeasonWalks x) {
        int[] all = new int[x.count(0)];
        for (int m = 0; m < all.length; m++) {
            all[m] = x.seats(m);
        }
        return all;
    }

    /** "SEATS: .. how many; .. the first such way (MONK by MONK, the least STALL first, none behind all); none." */
    private static void seats() {
        due.is("of nobody", new SeasonWalks().seats(NONE), 0);
        SeasonWalks none = Tapes.told(seven(""));
        due.is("none likes any", none.seats(NONE), 0);
        ways("none", seatsOf(none), NONE, NONE, NONE, NONE, NONE, NONE, NONE);
        SeasonWalks all = Tapes.told(seven(" likes abcdefghijkl"));
        due.is("all", all.seats(NONE), 7);
        ways("all", seatsOf(all), 0, 1, 2, 3, 4, 5, 6);
        SeasonWalks last = Tapes.told(seven(" likes l"));
        due.is("one alone", last.seats(NONE), 1);
        ways("one alone", seatsOf(last), 11, NONE, NONE, NONE, NONE, NONE, NONE);
        SeasonWalks x = Tapes.told("monk at 0 stall 0 likes ab;monk at 0 stall 1 likes a;monk at 0 stall 2 likes b;"
                + "monk at 0 stall 3 likes bc");
        due.is("three of four", x.seats(NONE), 3);
        ways("the first has his least", seatsOf(x), 0, NONE, 1, 2);
        SeasonWalks y = Tapes.told("monk at 0 stall 0 likes ab;monk at 0 stall 1 likes a;monk at 0 stall 2 likes c");
        due.is("all of three", y.seats(NONE), 3);
        ways("as many as can be", seatsOf(y), 1, 0, 2);
        due.is("their stalls stay", y.monk(0, 2) * 10 + y.monk(1, 2), 1);
    }

    /** "SHOWN: the fewest MONKS who all together LIKE fewer months than they are: of several the least; 0". */
    private static void shownFewest() {
        due.is("of nobody", new SeasonWalks().shown(), 0);
        due.is("as many as they are", Tapes.told(seven(" likes abcdefg")).shown(), 0);
        due.is("seven of six", Tapes.told(seven(" likes abcdef")).shown(), 127);
        due.is("any one of none", Tapes.told(seven("")).shown(), 1);
        due.is("any two of one", Tapes.told(seven(" likes l")).shown(), 3);
        due.is("three of two, of four", Tapes.told("monk at 0 stall 0 likes abc;monk at 0 stall 1 likes ab;"
                + "monk at 0 stall 2 likes ab;monk at 0 stall 3 likes ab").shown(), 14);
        due.is("the fewest ahead of the least", Tapes.told("monk at 0 stall 0 likes a;monk at 0 stall 1 likes a;"
                + "monk at 0 stall 2").shown(), 4);
    }

    /** "SERVES of a month (0 to 11): who LIKES it, as bits." */
    private static void servedMonths() {
        SeasonWalks x = Tapes.told(seven(" likes al"));
        due.is("the first month", x.serves(0), 127);
        due.is("the last month", x.serves(11), 127);
        due.is("between", x.serves(1) + x.serves(10), 0);
        due.outOfBounds("month 12", () -> x.serves(12));
        due.outOfBounds("month -1", () -> x.serves(-1));
        due.is("of nobody", new SeasonWalks().serves(0), 0);
    }

    private static int[] tradeOf(SeasonWalks x, boolean many) {
        int[] all = new int[x.count(0)];
        for (int m = 0; m < all.length; m++) {
            all[m] = x.trade(m, many);
        }
        return all;
    }

    /** "All those in a ring of pointers (or alone) change along it and are done; and on, till all are done". */
    private static void tradeRound() {
        SeasonWalks alone = Tapes.told(seven(""));
        ways("his own", tradeOf(alone, false), 0, 1, 2, 3, 4, 5, 6);
        ways("alone", tradeOf(alone, true), 1, 1, 1, 1, 1, 1, 1);
        due.is("one monk", Tapes.told("monk at 0 stall 5 likes a").trade(0, true), 1);
        SeasonWalks ring = Tapes.told("monk at 0 stall 0 likes g;monk at 0 stall 1 likes a;monk at 0 stall 2 likes b;"
                + "monk at 0 stall 3 likes c;monk at 0 stall 4 likes d;monk at 0 stall 5 likes e;"
                + "monk at 0 stall 6 likes f");
        ways("ring of seven", tradeOf(ring, false), 6, 0, 1, 2, 3, 4, 5);
        ways("seven", tradeOf(ring, true), 7, 7, 7, 7, 7, 7, 7);
        // All would rather have the stall 0; its own one keeps it, then the next one is the nearest, and so on.
        SeasonWalks one = Tapes.told(seven(" likes a"));
        ways("the first keeps it", tradeOf(one, false), 0, 1, 2, 3, 4, 5, 6);
        // 3 points to 2, which trades with 0: left behind he keeps his own.
        SeasonWalks left = Tapes.told("monk at 0 stall 0 likes c;monk at 0 stall 1 likes a;monk at 0 stall 2 likes a;"
                + "monk at 0 stall 3 likes c");
        ways("left behind", tradeOf(left, false), 2, 1, 0, 3);
        ways("a ring of two", tradeOf(left, true), 2, 1, 2, 1);
        due.is("stalls stay", left.monk(0, 2) * 10 + left.monk(2, 2), 2);
    }

    /** "by how far the month is from his own one round the year (the less; 0 to 6), then the least number". */
    private static void tradeByYear() {
        // The month 11 is one from 0, 2 is two from it.
        SeasonWalks x = Tapes.told("monk at 0 stall 0 likes cl;monk at 0 stall 2 likes a;monk at 0 stall 11 likes a");
        ways("round the year", tradeOf(x, false), 2, 1, 0);
        // The month 6 is six from 0, as far as can be; 7 is five from it.
        SeasonWalks y = Tapes.told("monk at 0 stall 0 likes gh;monk at 0 stall 6 likes a;monk at 0 stall 7 likes a");
        ways("six is the most", tradeOf(y, false), 2, 1, 0);
        // Both 1 and 11 are one from 0: the least number of the monks decides.
        SeasonWalks z = Tapes.told("monk at 0 stall 11 likes a;monk at 0 stall 1 likes a;monk at 0 stall 0 likes bl");
        ways("the least number", tradeOf(z, false), 2, 1, 0);
        SeasonWalks w = Tapes.told("monk at 0 stall 1 likes a;monk at 0 stall 11 likes a;monk at 0 stall 0 likes bl");
        ways("the least number, turned", tradeOf(w, false), 2, 1, 0);
        // The months 9 and 1 are one and three from 10.
        SeasonWalks t = Tapes.told("monk at 0 stall 10 likes bj;monk at 0 stall 1 likes k;monk at 0 stall 9 likes k");
        ways("from 10", tradeOf(t, false), 2, 1, 0);
        // One that he likes is above his own, however far.
        SeasonWalks v = Tapes.told("monk at 0 stall 0 likes g;monk at 0 stall 6");
        ways("he keeps what he likes not", tradeOf(v, false), 0, 1);
        SeasonWalks u = Tapes.told("monk at 0 stall 0 likes g;monk at 0 stall 6 likes a");
        ways("six apart", tradeOf(u, false), 1, 0);
    }

    /** "CONTENT: MONKS who LIKE their own STALL, as bits." */
    private static void contents() {
        due.is("of nobody", new SeasonWalks().content(), 0);
        due.is("all", Tapes.told(seven(" likes abcdefg")).content(), 127);
        due.is("the last", Tapes.told(seven(" likes g")).content(), 64);
        due.is("stall 11", Tapes.told("monk at 0 stall 11 likes l").content(), 1);
        due.is("none", Tapes.told("monk at 0 stall 11 likes abcdefghijk").content(), 0);
    }

    private static int seenOf(SeasonWalks x, boolean where, int... rows) {
        Tapes.bytes(x, rows);
        int answer = x.seen(where);
        due.is("used up", x.end(1), false);
        return answer;
    }

    /** "SEEN: .. an unknown FLAG .. an unknown same STRIDE 0 to 8"; rows of HOURS 0 to 23 and 1 or 0. */
    private static void seenPairs() {
        SeasonWalks x = Tapes.told("bell 15");
        due.is("none told", seenOf(x, false), 144);
        due.is("none told, where", seenOf(x, true), 65535);
        due.is("now", seenOf(x, false, 0, 1), 9);
        due.is("now, where", seenOf(x, true, 0, 1), 32768);
        due.is("not now", seenOf(x, false, 0, 0), 135);
        due.is("not now, where", seenOf(x, true, 0, 0), 32767);
        due.is("hour 23", seenOf(x, false, 23, 1), 9);
        due.is("strides 0 and 8", seenOf(x, false, 0, 1, 2, 1), 2);
        due.is("strides 1 to 8", seenOf(x, false, 0, 1, 1, 0), 8);
        due.is("stride 8, back in two", seenOf(x, false, 0, 1, 2, 1, 1, 0), 1);
        due.is("round from 15 to 15", seenOf(x, true, 16, 1), 32768);
        due.is("none fits", seenOf(x, false, 5, 1, 5, 0), 0);
        due.is("none fits, nowhere", seenOf(x, true, 5, 1, 5, 0), 0);
        int[] most = new int[40];
        due.is("40 bytes", seenOf(x, false, most), 135);
        most[38] = 1;
        most[39] = 1;
        // At the bell at 15 in an hour, but not now: by the strides 1 to 8 from the flags 7 to 14.
        due.is("the last row counts", seenOf(x, true, most), 0b0111_1111_1000_0000);
        SeasonWalks y = new SeasonWalks();
        due.is("the bell at 0", seenOf(y, true, 0, 1), 1);
        due.is("the first pair of all", seenOf(y, true, 0, 1, 1, 1) * 10 + seenOf(y, false, 0, 1, 1, 1), 11);
        due.is("the last pair of all", seenOf(x, true, 0, 1, 1, 0, 2, 1), 32768);
        y.bell(3);
        due.is("where the bell is now", seenOf(y, true, 0, 1), 8);
        badRows(x, 24, 0);
        badRows(x, 0, 2);
        badRows(x, 255, 0);
        badRows(x, 0, 255);
        badRows(x, 0);
        badRows(x, 0, 0, 0);
        badRows(x, new int[41]);
        badRows(x, new int[42]);
        badRows(x, 0, 1, 24, 1);
    }

    private static void badRows(SeasonWalks x, int... rows) {
        Tapes.bytes(x, rows);
        due.noNumber("bad rows, seen", () -> x.seen(false));
        due.is("used up", x.end(1), false);
        Tapes.bytes(x, rows);
        due.noNumber("bad rows, ask", x::ask);
        due.is("used up", x.end(1), false);
    }

    private static int askOf(SeasonWalks x, int... rows) {
        Tapes.bytes(x, rows);
        int answer = x.ask();
        due.is("used up", x.end(1), false);
        return answer;
    }

    /** "ASK: .. the greater part is the least (of several the least; none with fewer than two)". */
    private static void asked() {
        SeasonWalks x = Tapes.told("bell 15");
        due.is("of all", askOf(x), 0);
        due.is("of none", askOf(x, 5, 1, 5, 0), NONE);
        due.is("of one", askOf(x, 0, 1, 1, 1), NONE);
        due.is("of two", askOf(x, 0, 1, 2, 1), 1);
        due.is("of nine: 0, 2, 4, 6, 8 from the others", askOf(x, 0, 1), 8);
        due.is("of nine by the bell at 0", askOf(new SeasonWalks(), 0, 1), 8);
        due.is("of two with the first of all", askOf(new SeasonWalks(), 0, 1, 2, 1), 1);
        due.is("40 bytes", askOf(x, new int[40]), 1);
    }

    private static int ruleOf(SeasonWalks x, boolean least, int... rows) {
        Tapes.bytes(x, rows);
        int answer = x.rule(least);
        due.is("used up", x.end(1), false);
        return answer;
    }

    /** "RULE: the MOOD of an HOUR H is A times H and B, modulo 5 ..: how many; LEAST: ..; none." */
    private static void rules() {
        SeasonWalks x = new SeasonWalks();
        due.is("all", ruleOf(x, false) * 10 + ruleOf(x, true), 250);
        due.is("at 0", ruleOf(x, false, 0, 4) * 10 + ruleOf(x, true, 0, 4), 54);
        due.is("A of 4, B of 4", ruleOf(x, true, 0, 4, 1, 3), 24);
        due.is("one alone", ruleOf(x, false, 0, 4, 1, 3), 1);
        due.is("as 5 hours on", ruleOf(x, false, 0, 4, 5, 4, 20, 4), 5);
        due.is("hour 23", ruleOf(x, true, 0, 0, 23, 4), 15);
        due.is("none", ruleOf(x, false, 0, 4, 10, 3), 0);
        due.is("no least", ruleOf(x, true, 0, 4, 10, 3), NONE);
        int[] most = new int[40];
        most[38] = 1;
        most[39] = 2;
        due.is("40 bytes", ruleOf(x, true, most), 10);
        badRules(x, 24, 0);
        badRules(x, 0, 5);
        badRules(x, 0, 255);
        badRules(x, 255, 0);
        badRules(x, 0);
        badRules(x, 0, 0, 0);
        badRules(x, new int[41]);
        badRules(x, new int[42]);
        due.is("of a rule behind one who walks", seenOf(x, false, 0, 1) * 100 + ruleOf(x, false, 0, 1), 905);
        due.is("of one who walks behind a rule", ruleOf(x, false, 1, 1) * 1000 + seenOf(x, false), 5144);
    }

    private static void badRules(SeasonWalks x, int... rows) {
        Tapes.bytes(x, rows);
        due.noNumber("bad rule", () -> x.rule(true));
        due.is("used up", x.end(1), false);
        Tapes.bytes(x, rows);
        due.noNumber("bad rule, tells", x::tells);
        due.is("used up", x.end(1), false);
    }

    private static int tellsOf(SeasonWalks x, int... rows) {
        Tapes.bytes(x, rows);
        int answer = x.tells();
        due.is("used up", x.end(1), false);
        return answer;
    }

    /** "TELLS: .. the greatest part is the least (of several the least; none with fewer than two)". */
    private static void told() {
        SeasonWalks x = new SeasonWalks();
        due.is("of all", tellsOf(x), 0);
        due.is("of five by 0", tellsOf(x, 0, 4), 1);
        due.is("of five by 1", tellsOf(x, 1, 4), 0);
        due.is("of one", tellsOf(x, 0, 4, 1, 3), NONE);
        due.is("of none", tellsOf(x, 0, 4, 10, 3), NONE);
        due.is("as at 23", tellsOf(x, 23, 0, 20, 1), NONE);
        due.is("40 bytes", tellsOf(x, new int[40]), 1);
    }

    /** "SHARE of N (0 to 999): .. each into that of the WALK that has the least by then (of several the least)". */
    private static void shares() {
        SeasonWalks x = new SeasonWalks();
        int[] spring = {20, 21, 21, 21, 21, 22};
        int[] winter = {20, 20, 20, 20, 21, 21};
        for (int n = 0; n < spring.length; n++) {
            due.is("first of " + n, x.share(0, n), spring[n]);
            due.is("last of " + n, x.share(3, n), winter[n]);
        }
        due.is("999", x.share(0, 999) * 1000 + x.share(3, 999), 270269);
        due.noNumber("1000", () -> x.share(0, 1000));
        due.noNumber("-1", () -> x.share(0, -1));
        due.outOfBounds("no walk", () -> x.share(4, 1000));
        due.outOfBounds("walk -1", () -> x.share(-1, 0));
        due.is("nothing stays", x.count(9), 80);
        SeasonWalks full = Tapes.told("store spring 999;store summer 999;store autumn 999;store winter 998");
        due.is("the last place", full.share(3, 1) * 1000 + full.share(3, 0), 999998);
        due.is("no more goes anywhere", full.share(0, 999) + full.share(3, 999), 1998);
        SeasonWalks y = Tapes.told("store spring 0;store summer 999;store autumn 999;store winter 999");
        due.is("all into one", y.share(0, 998) * 1000 + y.share(0, 999), 998999);
    }

    /** "FEEDS: for how many HOURS its STORE feeds those in it now, who are not LOST (rounded down; none ..)". */
    private static void feedsRoundedDown() {
        String three = "monk at 0 stall 0;monk at 3 stall 1;monk at 1 stall 2;store spring ";
        due.is("3 of 11", Tapes.told(three + 11).feeds(0), 3);
        due.is("4 of 12", Tapes.told(three + 12).feeds(0), 4);
        due.is("0 of 2", Tapes.told(three + 2).feeds(0), 0);
        due.is("0 of 0", Tapes.told(three + 0).feeds(0), 0);
        due.is("333 of 999", Tapes.told(three + 999).feeds(0), 333);
        SeasonWalks x = Tapes.told(three + 11 + ";monk at 4 stall 3");
        due.is("the next walk", x.feeds(1), 20);
        due.is("nobody", x.feeds(2) + x.feeds(3), 2 * NONE);
        x.cross(3);
        due.is("a lost one", x.feeds(1) + x.feeds(3), 2 * NONE);
        x.find(3);
        due.is("a found one", x.feeds(3), 20);
    }

    private static int[] pairsOf(SeasonWalks x) {
        int[] all = new int[x.count(0)];
        for (int m = 0; m < all.length; m++) {
            all[m] = x.pairs(m);
        }
        return all;
    }

    /** "PAIRS: .. months that both of a pair LIKE are together the most: how many; .. none being the least". */
    private static void pairsOfMonths() {
        due.is("of nobody", new SeasonWalks().pairs(NONE), 0);
        SeasonWalks one = Tapes.told("monk at 0 stall 0 likes abcdefghijkl");
        due.is("one alone", one.pairs(NONE) * 10 + one.pairs(0), NONE);
        SeasonWalks none = Tapes.told("monk at 0 stall 0 likes ab;monk at 0 stall 1 likes cd;monk at 0 stall 2");
        due.is("nothing together", none.pairs(NONE), 0);
        ways("nothing together", pairsOf(none), NONE, NONE, NONE);
        SeasonWalks two = Tapes.told("monk at 0 stall 0 likes abcdefghijkl;monk at 0 stall 1 likes abcdefghijkl");
        due.is("twelve months", two.pairs(NONE), 12);
        ways("twelve months", pairsOf(two), 1, 0);
        SeasonWalks three = Tapes.told("monk at 0 stall 0 likes l;monk at 0 stall 1 likes l;monk at 0 stall 2 likes l");
        ways("none being the least", pairsOf(three), NONE, 2, 1);
        // 0 with 1 shares three, but 0 with 2 and 1 with 3 share four.
        SeasonWalks four = Tapes.told("monk at 0 stall 0 likes abcd;monk at 0 stall 1 likes abce;"
                + "monk at 0 stall 2 likes cd;monk at 0 stall 3 likes be");
        due.is("two of two", four.pairs(NONE), 4);
        ways("two of two", pairsOf(four), 2, 3, 0, 1);
        // 1 shares as much with 2 as with 3, but 2 is with 0.
        SeasonWalks taken = Tapes.told("monk at 0 stall 0 likes abc;monk at 0 stall 1 likes de;"
                + "monk at 0 stall 2 likes abcd;monk at 0 stall 3 likes e");
        due.is("three and one", taken.pairs(NONE), 4);
        ways("three and one", pairsOf(taken), 2, 3, 0, 1);
        SeasonWalks alike = Tapes.told("monk at 0 stall 0 likes a;monk at 0 stall 1 likes a;"
                + "monk at 0 stall 2 likes a;monk at 0 stall 3 likes a");
        ways("the least number", pairsOf(alike), 1, 0, 3, 2);
    }

    /** "MONKS put two by two, each in one such pair at most": of seven one is left. */
    private static void pairsOfSeven() {
        SeasonWalks all = Tapes.told(seven(" likes abcdefghijkl"));
        due.is("three pairs", all.pairs(NONE), 36);
        ways("the first is left", pairsOf(all), NONE, 2, 1, 4, 3, 6, 5);
        SeasonWalks x = Tapes.told("monk at 0 stall 0 likes ab;monk at 0 stall 1 likes c;monk at 0 stall 2 likes ab;"
                + "monk at 0 stall 3 likes cd;monk at 0 stall 4 likes cd;monk at 0 stall 5 likes l;"
                + "monk at 0 stall 6 likes l");
        due.is("two, two and one", x.pairs(NONE), 5);
        ways("two, two and one", pairsOf(x), 2, NONE, 0, 4, 3, 6, 5);
    }

    /** "WATCH: .. no farther than 2 FLAGS (this way or that way) ..: of several the least; none ..(0 without MONKS)". */
    private static void watchesOfTwoFlags() {
        due.is("nobody", new SeasonWalks().watch(), 0);
        due.is("two apart", Tapes.told("monk at 0 stall 0;monk at 2 stall 1").watch(), 1);
        due.is("three apart", Tapes.told("monk at 0 stall 0;monk at 3 stall 1").watch(), 3);
        due.is("two across the end", Tapes.told("monk at 15 stall 0;monk at 1 stall 1").watch(), 1);
        due.is("three across the end", Tapes.told("monk at 1 stall 0;monk at 14 stall 1").watch(), 3);
        due.is("the middle one", Tapes.told("monk at 0 stall 0;monk at 4 stall 1;monk at 2 stall 2").watch(), 4);
        due.is("never over the grass", Tapes.told("monk at 0 stall 0;monk at 8 stall 1;grass 0").watch(), 3);
        due.is("the least of seven", Tapes.told("monk at 0 stall 0;monk at 2 stall 1;monk at 4 stall 2;"
                + "monk at 6 stall 3;monk at 8 stall 4;monk at 10 stall 5;monk at 12 stall 6").watch(), 37);
        SeasonWalks x = Tapes.told("monk at 0 stall 0;monk at 10 stall 1;grass 20");
        x.cross(0);
        due.is("a lost one is watched", x.watch(), 2);
        x.cross(1);
        due.is("none, if all are lost", x.watch(), NONE);
        x.find(0);
        due.is("none, if it cannot be", x.watch(), NONE);
        SeasonWalks y = Tapes.told("monk at 8 stall 0;grass 20");
        y.cross(0);
        due.is("one alone is lost", y.watch(), NONE);
    }

    /** Monks of told rounds: each goes so often from 15 to 0 in 16 hours. */
    private static SeasonWalks rounds(int... rounds) {
        StringBuilder text = new StringBuilder("mood spring");
        for (int m = 0; m < rounds.length; m++) {
            text.append(";monk at 0 stall ").append(m).append(" pace ").append(rounds[m]);
        }
        SeasonWalks x = Tapes.told(text.toString());
        x.hours(16);
        return x;
    }

    /** "a set of MONKS carries it, if ROUNDS of these together are more than those of all others". */
    private static void chapters() {
        SeasonWalks x = rounds(4, 3, 1);
        due.is("rounds", x.monk(0, 7) * 100 + x.monk(1, 7) * 10 + x.monk(2, 7), 431);
        due.is("just half", x.chapter(1) || x.chapter(6), false);
        due.is("one more", x.chapter(5) && x.chapter(3), true);
        due.is("less", x.chapter(2) || x.chapter(4), false);
        due.is("none of them", x.chapter(0), false);
        due.is("all", x.chapter(7), true);
        due.is("bits of none count for nothing", x.chapter(7 + 8) && !x.chapter(1 + 8) && !x.chapter(-8), true);
        due.is("all bits", x.chapter(-1), true);
        due.is("the highest bit", x.chapter(Integer.MIN_VALUE), false);
        due.is("all but the highest", x.chapter(Integer.MAX_VALUE), true);
        SeasonWalks y = rounds(0, 0);
        due.is("no rounds", y.chapter(3) || y.chapter(0), false);
        due.is("nobody", new SeasonWalks().chapter(-1), false);
    }

    /** "SWINGS: in how many sets ..; ELDER: who SWINGS the most (of several the least; none, if nobody does)". */
    private static void swingsAndElder() {
        // {0,1}, {0,2}, {0,1,2} carry: 0 is needed in three, the others in one each.
        SeasonWalks x = rounds(4, 3, 1);
        due.is("swings", x.swings(0) * 100 + x.swings(1) * 10 + x.swings(2), 311);
        due.is("elder", x.elder(), 0);
        SeasonWalks y = rounds(1, 1, 1);
        due.is("two of three", y.swings(0) * 100 + y.swings(1) * 10 + y.swings(2), 222);
        due.is("of several the least", y.elder(), 0);
        SeasonWalks z = rounds(0, 0, 0, 0, 0, 0, 1);
        due.is("the last alone", z.swings(6) * 10 + z.swings(0), 640);
        due.is("the last", z.elder(), 6);
        due.is("by no rounds", rounds(0, 0).elder(), NONE);
        due.is("by no rounds, none", rounds(0, 0).swings(1), 0);
        due.is("nobody", new SeasonWalks().elder(), NONE);
        due.is("one alone", rounds(8).swings(0) * 10 + rounds(8).elder(), 10);
        SeasonWalks w = rounds(1, 1);
        due.is("both", w.swings(0) * 10 + w.swings(1), 11);
    }

    /** "RESTS: .. choices from which neither would have more by its other one: as bits; none, if he is LOST." */
    private static void restsOfChoices() {
        for (int grass = 0; grass <= 2; grass++) {
            for (int flag = 14; flag <= 18; flag++) {
                SeasonWalks x = Tapes.told("monk at " + flag % 16 + " stall 0;grass " + grass);
                int want = (grass == 0 ? 1 : 0) + (flag == 16 ? 8 : 0);
                due.is("rests at " + flag % 16 + " by grass " + grass, x.rests(0), want);
            }
        }
        SeasonWalks far = Tapes.told("monk at 8 stall 0;grass 20");
        due.is("eight off", far.rests(0), 0);
        far.cross(0);
        due.is("lost at the bell", far.rests(0), NONE);
        far.find(0);
        due.is("found at the bell", far.rests(0), 8);
    }

    /** "ODDS of N HOURS (0 to 6) and K (0 to 6): .. in ten thousandths, rounded down." */
    private static void oddsOfHours() {
        due.is("none of none", odds(0, 0, 0) + odds(100, 0, 0), 20000);
        due.is("one of none", odds(100, 0, 1) + odds(100, 5, 6), 0);
        due.is("always", odds(100, 6, 6), 10000);
        due.is("never", odds(0, 6, 1), 0);
        due.is("none at least", odds(50, 6, 0) + odds(0, 6, 0), 20000);
        due.is("a hundredth", odds(1, 1, 1), 100);
        due.is("a ten thousandth", odds(1, 2, 2), 1);
        due.is("a millionth", odds(1, 3, 3), 0);
        due.is("99 of 100", odds(99, 1, 1), 9900);
        due.is("just less than all", odds(99, 2, 1), 9999);
        due.is("nearly all, rounded down", odds(99, 3, 1), 9999);
        due.is("six of six", odds(99, 6, 6), 9414);
        due.is("halves", odds(50, 6, 6) * 10000 + odds(50, 6, 1), 1569843);
        due.is("five of six", odds(50, 6, 5), 1093);
        SeasonWalks x = new SeasonWalks();
        due.noNumber("7 hours", () -> x.odds(7, 0));
        due.noNumber("7 times", () -> x.odds(6, 7));
        due.noNumber("-1 hours", () -> x.odds(-1, 0));
        due.noNumber("-1 times", () -> x.odds(6, -1));
    }

    private static int odds(int fickle, int n, int k) {
        return Tapes.told("fickle " + fickle).odds(n, k);
    }

    /** "EMPTY: WALKS without MONKS, as bits. THRONG: the WALK of the most MONKS (LOST ones, too; ..the least)". */
    private static void emptyAndThrong() {
        due.is("nobody", new SeasonWalks().empty() * 10 + new SeasonWalks().throng(), 150);
        SeasonWalks x = Tapes.told("monk at 3 stall 0;monk at 4 stall 1;monk at 11 stall 2;monk at 12 stall 3");
        due.is("none empty", x.empty(), 0);
        due.is("all alike", x.throng(), 0);
        x.cross(0);
        due.is("spring is empty", x.empty(), 1);
        due.is("a lost one counts", x.throng(), 2);
        x.cross(2);
        due.is("one in spring again", x.empty(), 0);
        SeasonWalks y = Tapes.told("monk at 7 stall 0;monk at 15 stall 1");
        due.is("of two the least", y.throng(), 1);
        due.is("the others", y.empty(), 5);
        SeasonWalks z = Tapes.told("monk at 0 stall 0;monk at 15 stall 1;monk at 12 stall 2");
        due.is("the last walk", z.throng(), 3);
    }

    /** "GONE: those who are LOST, as bits. ROUND of N (0 to 999): MONKS whose ROUNDS are N at least, as bits." */
    private static void goneAndRound() {
        SeasonWalks x = Tapes.told(seven("") + ";grass 1;hour 1");
        due.is("none", x.gone(), 0);
        for (int m = 0; m < 7; m++) {
            x.cross(m);
        }
        due.is("all", x.gone(), 127);
        x.find(0);
        due.is("all but one", x.gone(), 126);
        x.hours(1);
        due.is("none any more", x.gone(), 0);
        due.is("round of 0", x.round(0), 127);
        SeasonWalks y = rounds(0, 1, 2, 3, 4, 5, 6);
        for (int n = 0; n <= 7; n++) {
            due.is("round of " + n, y.round(n), 127 >> n << n);
        }
        due.is("round of 999", y.round(999), 0);
        due.noNumber("round of 1000", () -> y.round(1000));
        due.noNumber("round of -1", () -> y.round(-1));
        due.is("nobody", new SeasonWalks().round(0) + new SeasonWalks().gone(), 0);
    }

    /** "HUNGRIEST: of the most HUNGER (of several the least; none, if it is 0)". */
    private static void hungriests() {
        due.is("nobody", new SeasonWalks().hungriest(), NONE);
        SeasonWalks x = Tapes.told("monk at 0 stall 0 pace 0;monk at 9 stall 1 pace 0;monk at 15 stall 2 pace 0;"
                + "store spring 1;store autumn 0;store winter 0");
        due.is("none is hungry", x.hungriest(), NONE);
        x.hours(1);
        due.is("of two the least", x.hungriest(), 1);
        x.fill(2, 1);
        x.hours(1);
        due.is("the last", x.hungriest(), 2);
        x.cross(2);
        due.is("a lost one, too", x.hungriest(), 2);
        SeasonWalks y = Tapes.told("monk at 0 stall 0 pace 0;store spring 0");
        y.hours(1);
        due.is("one alone", y.hungriest(), 0);
    }

    /** "ALIKE: pairs of MONKS of like PACE and FLAG." */
    private static void alikePairs() {
        due.is("nobody", new SeasonWalks().alike(), 0);
        due.is("one", Tapes.told("monk at 0 stall 0").alike(), 0);
        SeasonWalks x = Tapes.told(seven(""));
        due.is("seven", x.alike(), 21);
        x.pace(6, 3);
        due.is("but for one", x.alike(), 15);
        x.cross(0);
        due.is("but for two", x.alike(), 10);
        x.cross(1);
        due.is("four and two lost ones", x.alike(), 7);
    }

    /** "LAG of a MONK: LATE in hundredths of that of all, rounded down (0 without)". */
    private static void lags() {
        SeasonWalks x = Tapes.told("monk at 1 stall 0 pace 0;monk at 1 stall 1 pace 0;monk at 1 stall 2 pace 0;"
                + "monk at 0 stall 3 pace 0");
        due.is("without", x.monk(0, 9), 0);
        x.hours(1);
        due.is("a third", x.monk(0, 9) + x.monk(1, 9) + x.monk(2, 9), 99);
        due.is("none", x.monk(3, 9), 0);
        x.bell(1);
        x.hours(3);
        due.is("a fourth", x.monk(3, 9) * 100 + x.monk(0, 9), 2525);
        SeasonWalks y = Tapes.told("monk at 1 stall 0 pace 0");
        y.hours(1);
        due.is("all", y.monk(0, 9), 100);
    }

    /** "AHEAD by N HOURS (0 to 72): as so many HOURS without (d) (no DRAWS)." */
    private static void aheadOfHours() {
        String text = "monk at 15 stall 0 pace 1;monk at 3 stall 1 pace 3;store spring 2;mood spring;hour 5;fickle ";
        SeasonWalks x = Tapes.told(text + 100);
        for (int n = 0; n <= 72; n += n < 3 || n > 68 ? 1 : 3) {
            SeasonWalks y = Tapes.told(text + 0);
            if (n > 0) {
                y.hours(n);
            }
            for (int m = 0; m < 2; m++) {
                due.is("flag in " + n, x.ahead(m, n, 0), y.monk(m, 0));
                due.is("late in " + n, x.ahead(m, n, 1), y.monk(m, 5));
                due.is("hunger in " + n, x.ahead(m, n, 2), y.monk(m, 6));
            }
        }
        due.is("nothing stays", x.count(3) * 10 + x.count(10) + x.count(11) + x.count(12), 50);
        due.is("no draws", x.seed(1), 1);
    }

    /** "TRIAL of N HOURS (0 to 72) from now (draws, too; nothing stays)". */
    private static void trials() {
        String text = "monk at 15 stall 0 pace 1;monk at 3 stall 1 pace 3;hour 5;fickle 60";
        for (int n = 0; n <= 72; n += n < 3 || n > 68 ? 1 : 3) {
            SeasonWalks x = Tapes.told(text);
            x.seed(4);
            int late = x.trial(n, false);
            int mood = x.trial(n, true);
            due.is("nothing stays", x.count(3) * 10 + x.count(10) + x.count(11) + x.count(12), 50);
            due.is("no draw stays", x.seed(4), 4);
            if (n > 0) {
                x.hours(n);
            }
            due.is("late in " + n, late, x.count(10));
            due.is("mood in " + n, mood, x.count(6));
        }
        SeasonWalks y = new SeasonWalks();
        due.is("now", y.trial(0, true) * 10 + y.trial(0, false), 40);
        due.noNumber("73", () -> y.trial(73, true));
        due.noNumber("-1", () -> y.trial(-1, false));
    }

    /** "SPAN: the least and the greatest LATE of all so from SEED 1, 2, .. 6." */
    private static void spansOfSixSeeds() {
        boolean[] leastAt = new boolean[8];
        boolean[] mostAt = new boolean[8];
        for (int n = 1; n <= 72; n++) {
            SeasonWalks x = ruled("monk at 15 stall 0 pace 3;monk at 3 stall 1 pace 1;monk at 8 stall 2;fickle 50;hour "
                    + n % 24, "slow 1 if season>1;haste 3 if season<1");
            int[] late = new int[8];
            for (int seed = 0; seed < 8; seed++) {
                x.seed(seed);
                late[seed] = x.trial(n, false);
            }
            int least = late[1];
            int most = late[1];
            for (int seed = 2; seed <= 6; seed++) {
                least = Math.min(least, late[seed]);
                most = Math.max(most, late[seed]);
            }
            due.is("span of " + n, x.span(n, false) * 1000 + x.span(n, true), least * 1000 + most);
            due.is("nothing stays", x.seed(1), 7);
            alone(late, leastAt, -1);
            alone(late, mostAt, 1);
        }
        for (int seed = 0; seed < 8; seed++) {
            due.is("the seed " + seed + " tells once", leastAt[seed] || mostAt[seed], true);
        }
        SeasonWalks y = Tapes.told("monk at 1 stall 0 pace 0");
        y.hours(4);
        due.is("span of 0", y.span(0, false) * 10 + y.span(0, true), 22);
        due.noNumber("73", () -> y.span(73, true));
        due.noNumber("-1", () -> y.span(-1, false));
    }

    /** Marks the seed that alone has the most (or, turned, the least) of the seeds 1 to 6 and itself. */
    private static void alone(int[] late, boolean[] marks, int turn) {
        for (int seed = 0; seed < 8; seed++) {
            boolean is = true;
            for (int other = 1; other <= 6; other++) {
                is &= other == seed || turn * late[seed] > turn * late[other];
            }
            marks[seed] |= is;
        }
    }

    /** "LED: how many rows of THE LOG are of a MONK; the FLAG of the latest (none)." */
    private static void ledFlags() {
        SeasonWalks x = Tapes.told("monk at 15 stall 0 pace 1;monk at 0 stall 1 pace 0;mood spring;hour 2");
        due.is("none yet", x.led(0, false) * 10 + x.led(0, true), NONE);
        x.hours(1);
        due.is("round to 0", x.led(0, false) * 10 + x.led(0, true), 10);
        x.hours(1);
        due.is("late at 1", x.led(0, false) * 10 + x.led(0, true), 21);
        due.is("the other never", x.led(1, false) * 10 + x.led(1, true), NONE);
        x.undo();
        due.is("undone", x.led(0, false) * 10 + x.led(0, true), 10);
    }

    /** "count: 0 MONKS, .. 12 acts that can be UNDONE. NONE for another what." */
    private static void counted() {
        SeasonWalks x = Tapes.told(seven(" pace 0") + ";bell 15;mood winter;fickle 100;grass 20;hour 23;day 999");
        for (String season : SEASONS) {
            Tapes.cloister(x, "store " + season + " 999");
        }
        int[] most = {7, 5, NONE, 23, 999, 15, 3, 100, 20, 3996, 0, 0, 0, NONE};
        for (int what = 0; what < most.length; what++) {
            due.is("count(" + what + ")", x.count(what), most[what]);
        }
        due.is("count(-1)", x.count(-1), NONE);
        due.is("count of the least", x.count(Integer.MIN_VALUE), NONE);
        due.is("count of the greatest", x.count(Integer.MAX_VALUE), NONE);
        Tapes.cloister(x, "fickle 0");
        for (int times = 0; times < 13; times++) {
            x.hours(3);
        }
        due.is("late, rows, acts", x.count(10) * 10000 + x.count(11) * 100 + x.count(12), 916012);
        due.is("stores", x.count(9), 3996 - 7 * 39);
        Tapes.law(x, "");
        due.is("no lines, no acts", x.count(2) * 10 + x.count(12), 0);
    }

    /** "MONKS (at most 7 ..)": of a full cloister each answer tells of these seven alone. */
    private static void fullCloister() {
        SeasonWalks x = Tapes.told(seven(" pace 1 likes l") + ";mood spring;grass 19;store spring 0;store summer 0;"
                + "store autumn 0;store winter 0");
        due.is("late five times", x.hours(17), 35);
        for (int m = 0; m < 7; m++) {
            int[] want = {1, 1, m, 2048, 0, 5, 17, 1, 1, 14};
            for (int what = 0; what < want.length; what++) {
                due.is("full monk(" + m + ", " + what + ")", x.monk(m, what), want[what]);
            }
            due.is("seat of " + m, x.seats(m), m == 0 ? 11 : NONE);
            due.is("swings of " + m, x.swings(m), 20);
            due.is("his own stall", x.trade(m, false) * 10 + x.trade(m, true), 10 * m + 1);
            due.is("rests of " + m, x.rests(m), 0);
        }
        x.change(0, 1);
        due.is("late of all", x.count(10), 35);
        due.is("gone", x.gone(), 0);
        due.is("choir", x.choir(), 0);
        due.is("content", x.content(), 0);
        due.is("round", x.round(0) * 1000000 + x.round(1) * 1000 + x.round(2), 127127000);
        due.is("hungriest", x.hungriest(), 0);
        due.is("alike", x.alike(), 21);
        due.is("chapter", x.chapter(15) && !x.chapter(7), true);
        due.is("elder", x.elder(), 0);
        due.is("empty", x.empty() * 10 + x.throng(), 140);
        due.is("seats", x.seats(NONE) * 1000 + x.shown(), 1003);
        due.is("pairs", x.pairs(NONE) * 10 + x.pairs(6), 35);
        due.is("watch", x.watch(), 1);
        due.is("starves", x.starves(), 0);
        x.cross(0);
        for (int month = 0; month < 12; month++) {
            due.is("serves of " + month, x.serves(month), month == 11 ? 127 : 0);
        }
        due.is("content, one lost", x.content(), 0);
        due.is("gone, one lost", x.gone(), 1);
        SeasonWalks y = Tapes.told(seven(" pace 1 likes l") + ";mood spring;bell 3");
        y.hours(2);
        due.is("fed", y.hungriest(), NONE);
        y.hours(15);
        due.is("none LOST, six LATE", y.gone() * 100 + y.monk(6, 5), 6);
    }

    /** What was answered of other monks leaves nothing behind in later answers. */
    private static void noTrace() {
        SeasonWalks x = new SeasonWalks();
        x.image();
        Tapes.cloister(x, seven(" likes abcdefghijkl"));
        due.is("of seven", x.seats(NONE) * 1000 + x.shown(), 7000);
        due.is("pairs of seven", x.pairs(NONE) * 10 + x.pairs(6), 365);
        due.is("trade of seven", x.trade(6, false) * 10 + x.trade(6, true), 61);
        due.is("road by two", roadOfTwo(x), 2);
        x.back();
        due.is("of nobody", x.seats(NONE) * 1000 + x.shown() + x.pairs(NONE), 0);
        Tapes.cloister(x, "monk at 0 stall 3;monk at 0 stall 4 likes a;monk at 0 stall 0 likes e");
        due.is("of three", x.seats(NONE) * 1000 + x.shown(), 2001);
        ways("seats of three", seatsOf(x), NONE, 0, 4);
        due.is("pairs of three", x.pairs(NONE), 0);
        ways("pairs of three", pairsOf(x), NONE, NONE, NONE);
        ways("trade of three", tradeOf(x, false), 0, 2, 1);
        due.is("no road", x.road(0, false) * 10 + x.road(0, true), NONE);
        due.is("walks of none told", seenOf(x, false), 144);
    }

    private static int roadOfTwo(SeasonWalks x) {
        Tapes.bytes(x, 2, 1);
        return x.road(0, false);
    }

    /** "AHEAD by N HOURS: as so many HOURS without (d) (no DRAWS)": FICKLE changes nothing that is AHEAD. */
    private static void noDraws() {
        String text = "monk at 5 stall 0 pace 2;monk at 0 stall 1 pace 3;monk at 8 stall 2 pace 1;bell 3;mood spring;"
                + "store spring 9;store summer 3;store autumn 2;store winter 1;fickle ";
        String law = "haste 3 if season>0;slow 1 if season>2";
        SeasonWalks never = ruled(text + 0, law);
        SeasonWalks always = ruled(text + 100, law);
        for (int m = 0; m < 3; m++) {
            for (int flag = 0; flag < 16; flag++) {
                due.is("when", always.when(m, flag), never.when(m, flag));
            }
            due.is("meet", always.meet(m, (m + 1) % 3), never.meet(m, (m + 1) % 3));
        }
        for (int n = 0; n <= 9; n++) {
            due.is("lates", always.lates(n), never.lates(n));
        }
        due.is("tardy", always.tardy(), never.tardy());
        due.is("ring", always.ring(), never.ring());
        due.is("humour", always.humour(), never.humour());
        due.is("starves", always.starves(), never.starves());
        due.is("no draw was made", always.seed(1), 1);
    }
}

/** The edges of the tape and of the texts, by the sentences of ../shared/DOC.md that name them. */
public final class TextEdgeTests {
    private static final int NONE = SeasonWalks.NONE;
    private static final Due due = new Due("edges of texts");

    private TextEdgeTests() {
    }

    public static void main(String[] args) {
        tapeOfFourHundred();
        bytesHighestFirst();
        endOfTape();
        textsAreTwelve();
        linesAreFourteen();
        monksAreSeven();
        monkLines();
        freeStalls();
        likedLetters();
        tellingLines();
        numbersOfDigits();
        wordsAndBlanks();
        textsWithoutLines();
        nothingOfWrongTexts();
        lawLinesAreTwelve();
        lawNumbers();
        strides();
        stridesWithoutText();
        corners();
        hungers();
        parts();
        compared();
        sixDeep();
        allAndAny();
        wrongThingsOfLaws();
        wrongThingsOfTexts();
        faultOfLatestText();
        due.close();
    }

    /** "NONE, and none come, if it would have more than 400." */
    private static void tapeOfFourHundred() {
        SeasonWalks x = new SeasonWalks();
        for (int size = 20; size <= 400; size += 20) {
            due.is("feed to " + size, x.feed(0, 0, 0, 0, 0), size);
        }
        due.is("feed the full", x.feed(-1, -1, -1, -1, -1), NONE);
        due.is("full", x.end(401), false);
        due.is("none came", x.end(400), true);
        x.end(381);
        due.is("one too many", x.feed(0, 0, 0, 0, 0), NONE);
        due.is("none of these came", x.end(382), false);
        x.end(380);
        due.is("just room", x.feed(0, 0, 0, 0, 0), 400);
        due.is("used up by a refused text", refusedFault(x) == 0 && !x.end(1), true);
        due.is("feed the empty", x.feed(0, 0, 0, 0, 0), 20);
        SeasonWalks y = new SeasonWalks();
        Tapes.text(y, " ".repeat(395) + "grass");
        due.noNumber("more must come behind 400", y::cloister);
        due.is("the length of the full", y.fault(), 400);
        due.is("a text of 400", Tapes.cloister(y, " ".repeat(393) + "grass 7"), 1);
        due.is("read to its end", y.count(8), 7);
    }

    private static int refusedFault(SeasonWalks x) {
        due.noNumber("bytes of 0", x::cloister);
        return x.fault();
    }

    /** "Twenty bytes come behind the TAPE, of each number the highest first: how many it has." */
    private static void bytesHighestFirst() {
        SeasonWalks x = new SeasonWalks();
        due.is("five numbers", x.feed(0x6772_6173, 0x7320_3137, 0x3b68_6f75, 0x7220_3233, 0x3b64_6179), 20);
        due.is("behind", x.feed(0x2039_3938, 0, 0, 0, 0x80ff_7f00), 40);
        x.end(24);
        due.is("read in their order", x.cloister(), 1);
        due.is("grass, hour, day", x.count(8) * 100000 + x.count(3) * 1000 + x.count(4), 1723998);
        x.feed(0x00ff_0000, 0, 0, 0, 0);
        x.end(2);
        due.noNumber("a byte of 255 is no flag", () -> x.road(0, false));
        x.feed(0x0f00_0000, 0, 0, 0, 0);
        x.end(1);
        due.is("a byte of 15", x.road(15, true), 15);
    }

    /** "The TAPE has its first n bytes alone: true; false, and nothing happens, if it has fewer, or n is below 0." */
    private static void endOfTape() {
        SeasonWalks x = new SeasonWalks();
        due.is("none of none", x.end(0), true);
        due.is("one of none", x.end(1), false);
        x.feed(0x0405_0000, 0, 0, 0, 0);
        due.is("below 0", x.end(-1), false);
        due.is("far below 0", x.end(Integer.MIN_VALUE), false);
        due.is("one more", x.end(21), false);
        due.is("far more", x.end(Integer.MAX_VALUE), false);
        due.is("nothing happened", x.end(20), true);
        due.is("the first two", x.end(2), true);
        due.is("no more than two", x.end(3), false);
        due.is("the first alone", x.road(3, false), 2);
        x.feed(0x0400_0000, 0, 0, 0, 0);
        due.is("none is left", x.end(0), true);
        due.is("of none told", x.road(3, true), NONE);
    }

    /** "At most 12, one behind another": the thirteenth is refused, a wrong one first of all as wrong. */
    private static void textsAreTwelve() {
        SeasonWalks x = new SeasonWalks();
        x.image();
        for (int texts = 1; texts <= 12; texts++) {
            due.is("text " + texts, Tapes.cloister(x, "day " + texts), texts);
        }
        Tapes.text(x, "day 13");
        due.fails("text 13", UnsupportedOperationException.class, x::cloister);
        due.is("day of the twelfth", x.count(4), 12);
        due.is("no fault in it", x.fault(), NONE);
        due.is("its tape is used up", x.end(1), false);
        Tapes.text(x, "day");
        due.noNumber("wrong text 13", x::cloister);
        due.is("the fault of it", x.fault(), 3);
        due.fails("empty text 13", UnsupportedOperationException.class, x::cloister);
        due.is("no fault in the empty one", x.fault(), NONE);
        due.is("twelve", x.count(1), 12);
        due.is("a law is no such text", Tapes.law(x, "keep"), 1);
        due.is("back ahead of all", x.back() && x.count(1) == 0 && x.count(4) == 0, true);
        due.is("room again", Tapes.cloister(x, ""), 1);
        Tapes.text(x, "day x");
        due.noNumber("a wrong one", x::cloister);
        due.is("does not count", x.count(1), 1);
    }

    /** "LINE { ; LINE }, at most 14"; of a LINE too many the first word is wrong. */
    private static void linesAreFourteen() {
        String fourteen = "day 1" + ";day 2".repeat(12) + ";day 3";
        right(fourteen);
        wrong(fourteen + ";day 4", fourteen.length() + 1);
        wrong(fourteen + " ;  bell 99", fourteen.length() + 4);
        wrong(fourteen + ";", fourteen.length() + 1);
        wrong(fourteen + " 4", fourteen.length() + 1);
        right("bell 1");
        wrong("bell 1;", 7);
        wrong(";bell 1", 0);
        wrong("bell 1;;bell 2", 7);
        SeasonWalks x = Tapes.told(fourteen);
        due.is("the fourteenth counts", x.count(4), 3);
    }

    /** "MONKS (at most 7, numbered from 0 on)"; of a MONK too many the first word is wrong. */
    private static void monksAreSeven() {
        SeasonWalks x = Tapes.told(monks(0, 7));
        due.is("seven", x.count(0), 7);
        due.is("numbered from 0", x.monk(0, 2) * 100 + x.monk(6, 2), 6);
        due.outOfBounds("no monk 7", () -> x.monk(7, 0));
        Tapes.text(x, "day 5; monk");
        due.noNumber("an eighth", x::cloister);
        due.is("wrong at its word", x.fault(), 7);
        due.is("seven yet", x.count(0), 7);
        wrong(monks(0, 8), monks(0, 7).length() + 1);
        SeasonWalks y = Tapes.told(monks(0, 6));
        due.is("a seventh by a second text", Tapes.cloister(y, monks(6, 7)), 2);
        due.is("numbered on", y.monk(6, 2), 6);
        Tapes.text(y, monks(7, 8));
        due.noNumber("an eighth by a third text", y::cloister);
        due.is("wrong at its begin", y.fault(), 0);
    }

    private static String monks(int from, int to) {
        StringBuilder text = new StringBuilder();
        for (int m = from; m < to; m++) {
            text.append(m == from ? "" : ";").append("monk at ").append(m).append(" stall ").append(m);
        }
        return text.toString();
    }

    /** "monk at N stall N [ pace N ] [ likes L ]": FLAGS 0 to 15, STALLS 0 to 11, PACE 0 to 8, 2 at first. */
    private static void monkLines() {
        told("monk at 0 stall 0", 0, 2, 0, 0, 0, 0, 0, 0);
        told("monk at 15 stall 11 pace 8 likes l", 15, 8, 11, 2048, 0, 0, 0, 0);
        told("monk at 15 stall 11 pace 0", 15, 0, 11, 0, 0, 0, 0, 0);
        told("monk at 1 stall 1 likes a", 1, 2, 1, 1, 0, 0, 0, 0);
        wrong("monk at 16 stall 0", 8);
        wrong("monk at 15 stall 12", 17);
        wrong("monk at 15 stall 11 pace 9", 25);
        wrong("monk at 1 stall 1 pace", 22);
        wrong("monk at 1 stall 1 likes", 23);
        wrong("monk at 1 stall 1 likes a pace 1", 26);
        wrong("monk at 1 stall 1 pace 1 pace 1", 25);
        wrong("monk at 1 stall 1 likes a likes b", 26);
        wrong("monk stall 1 at 1", 5);
        wrong("monk at 1", 9);
        wrong("monk", 4);
    }

    private static void told(String text, int... want) {
        SeasonWalks x = Tapes.told(text);
        for (int what = 0; what < want.length; what++) {
            due.is(what + " of " + text, x.monk(0, what), want[what]);
        }
    }

    /** "stall: one that nobody has by then, else it is wrong at it". */
    private static void freeStalls() {
        wrong("monk at 0 stall 0;monk at 1 stall 0", 34);
        wrong("monk at 0 stall 11;monk at 1 stall 11", 35);
        wrong("monk at 0 stall 1;monk at 1 stall 001", 34);
        SeasonWalks x = Tapes.told("monk at 0 stall 3;monk at 0 stall 4");
        Tapes.text(x, "monk at 9 stall 4");
        due.noNumber("one of an earlier text", x::cloister);
        due.is("wrong at it", x.fault(), 16);
        x.change(0, 1);
        Tapes.text(x, "monk at 9 stall 3");
        due.noNumber("one that is changed", x::cloister);
        due.is("wrong at it, too", x.fault(), 16);
        due.is("one that nobody has", Tapes.cloister(x, "monk at 9 stall 5"), 2);
        Tapes.text(x, "monk at 9 stall 6;monk at 9 stall 5;monk at 9 stall 7");
        due.noNumber("the second one", x::cloister);
        due.is("none of that text stays", x.count(0), 3);
        due.is("its first stall is free yet", Tapes.cloister(x, "monk at 9 stall 6"), 3);
    }

    /** "L: letters a to l, none twice, a for the month 0, b for 1, and on"; else wrong at the begin of the letters. */
    private static void likedLetters() {
        told("monk at 0 stall 0 likes lkjihgfedcba", 0, 2, 0, 4095);
        told("monk at 0 stall 0 likes bl", 0, 2, 0, 2050);
        wrong("monk at 0 stall 0 likes m", 24);
        wrong("monk at 0 stall 0 likes am", 24);
        wrong("monk at 0 stall 0 likes z", 24);
        wrong("monk at 0 stall 0 likes aa", 24);
        wrong("monk at 0 stall 0 likes lbcl", 24);
        wrong("monk at 0 stall 0 likes A", 24);
        wrong("monk at 0 stall 0 likes `", 24);
        wrong("monk at 0 stall 0 likes aB", 25);
        wrong("monk at 0 stall 0 likes 0", 24);
        wrong("monk at 0 stall 0 likes a b", 26);
    }

    /** "bell N | mood K | fickle N | grass N | store K N | hour N | day N", each at its bounds. */
    private static void tellingLines() {
        tells("bell ", 5, 15);
        tells("fickle ", 7, 100);
        tells("grass ", 8, 20);
        tells("hour ", 3, 23);
        due.is("day 0", Tapes.told("day 7;day 0").count(4), 0);
        due.is("day 999", Tapes.told("day 999").count(4), 999);
        wrong("day 1000", 4);
        String[] seasons = {"spring", "summer", "autumn", "winter"};
        for (int season = 0; season < 4; season++) {
            due.is("mood", Tapes.told("mood " + seasons[season]).count(6), season);
            due.is("store 0", Tapes.told("store " + seasons[season] + " 0").store(season), 0);
            due.is("store 999", Tapes.told("store " + seasons[season] + " 999").store(season), 999);
            due.is("the others", Tapes.told("store " + seasons[season] + " 999").count(9), 1059);
            wrong("store " + seasons[season] + " 1000", 13);
            wrong("store " + seasons[season], 12);
        }
        due.is("mood own", Tapes.told("mood spring;mood own").count(6), 4);
        wrong("store own 1", 6);
        wrong("mood", 4);
        wrong("mood owns", 5);
        wrong("mood 4", 5);
        wrong("store 1", 6);
        wrong("bell", 4);
        wrong("day", 3);
    }

    private static void tells(String word, int what, int most) {
        due.is(word + 0, Tapes.told(word + "7;" + word + 0).count(what), 0);
        due.is(word + most, Tapes.told(word + most).count(what), most);
        wrong(word + (most + 1), word.length());
        wrong(word + 999, word.length());
        wrong(word + "-1", word.length());
        wrong(word, word.length());
        wrong(word + "x", word.length());
    }

    /** "Numbers are of 1 to 3 digits." */
    private static void numbersOfDigits() {
        due.is("one digit", Tapes.told("bell 9").count(5), 9);
        due.is("two digits", Tapes.told("bell 09").count(5), 9);
        due.is("three digits", Tapes.told("bell 009").count(5), 9);
        wrong("bell 0009", 5);
        wrong("day 0000", 4);
        wrong("day 4294967297", 4);
        wrong("hour 1;day 99999999999999999999", 11);
        due.is("digits 0 and 9", Tapes.told("day 909").count(4), 909);
        wrong("day 1/", 5);
        wrong("day 1:", 5);
        wrong("day /", 4);
        wrong("day :", 4);
        wrong("bell 1a", 6);
        wrong("bell a1", 5);
    }

    /** "Words are as long as a to z go on; between all there may be blanks (32), also ahead and behind." */
    private static void wordsAndBlanks() {
        right("monk at0stall1pace2likes ab;bell3;store spring4");
        right("   monk   at   0   stall   1   pace   2   likes   ab   ;   bell   3   ");
        wrong("monkat 0 stall 1", 0);
        wrong("monk at 0 stall 1 likesab", 18);
        wrong("monk at 0stal 1", 9);
        wrong("monk at 0 stalls 1", 10);
        wrong("bellz 3", 0);
        wrong("be 3", 0);
        wrong("cell 3", 0);
        wrong("bels 3", 0);
        wrong("`ell 3", 0);
        wrong("{ell 3", 0);
        wrong("bell{3", 4);
        wrong("bell`3", 4);
        wrong("bell\n3", 4);
        wrong("bell!3", 4);
        wrong("bell\u001f3", 4);
        wrong("bell\u00a03", 4);
        wrong("b ell 3", 0);
        wrong("bell 1 3", 7);
        wrong("Bell 3", 0);
        wrong("bell 3\u0000", 6);
        due.is("a, z and blanks of a law", Tapes.law(new SeasonWalks(), " keep  if  hungry  or(corner) "), 1);
    }

    /** "A text that is empty, or blanks alone, has no LINE." */
    private static void textsWithoutLines() {
        SeasonWalks x = new SeasonWalks();
        due.is("no text yet", x.count(2), NONE);
        due.is("an empty text", Tapes.cloister(x, ""), 1);
        due.is("a blank", Tapes.cloister(x, " "), 2);
        due.is("blanks alone", Tapes.cloister(x, " ".repeat(400)), 3);
        due.is("an empty law", Tapes.law(x, ""), 0);
        due.is("its lines", x.count(2), 0);
        due.is("a blank law", Tapes.law(x, " ".repeat(400)), 0);
        due.is("in place of the one before", Tapes.law(x, "keep") * 10 + Tapes.law(x, " "), 10);
        due.is("no fault", x.fault(), NONE);
    }

    /** "Of a wrong text nothing stays." */
    private static void nothingOfWrongTexts() {
        SeasonWalks x = Tapes.told("monk at 1 stall 1;bell 2;mood winter;fickle 3;grass 5;store autumn 6;hour 7;day 8");
        Tapes.text(x, "monk at 2 stall 2;bell 3;mood spring;fickle 4;grass 6;store autumn 7;hour 8;day 9;");
        due.noNumber("a line too few", x::cloister);
        int[] want = {1, 1, NONE, 7, 8, 2, 3, 3, 5, 66};
        for (int what = 0; what < want.length; what++) {
            due.is("count(" + what + ") stays", x.count(what), want[what]);
        }
        Tapes.law(x, "haste 5");
        Tapes.text(x, "haste 6;haste 6;haste");
        due.noNumber("a number too few", x::law);
        due.is("the law stays", x.monk(0, 8) * 10 + x.count(2), 71);
    }

    /** "LINE { ; LINE }, at most 12" of THE LAW. */
    private static void lawLinesAreTwelve() {
        String twelve = "haste 1" + ";haste 1".repeat(11);
        SeasonWalks x = Tapes.told("monk at 0 stall 0 pace 0");
        due.is("twelve", Tapes.law(x, twelve), 12);
        due.is("all twelve hold", x.monk(0, 8), 12);
        wrongLaw(twelve + ";haste 1", twelve.length() + 1);
        wrongLaw(twelve + " ; slow 99", twelve.length() + 3);
        wrongLaw(twelve + ";", twelve.length() + 1);
        wrongLaw("keep;", 5);
        wrongLaw(";keep", 0);
        wrongLaw("keep;;keep", 5);
        due.is("one", Tapes.law(x, "keep"), 1);
    }

    /** "All numbers are of 1 to 3 digits (N 0 to 20)." */
    private static void lawNumbers() {
        SeasonWalks x = Tapes.told("monk at 0 stall 0 pace 5");
        stride(x, "haste 0", 5);
        stride(x, "haste 000", 5);
        stride(x, "slow 20;haste 20", 5);
        stride(x, "slow 20;haste 15;haste 20", 15);
        wrongLaw("haste 21", 6);
        wrongLaw("slow 21", 5);
        wrongLaw("slow 0001", 5);
        wrongLaw("slow", 4);
        wrongLaw("keep 0", 5);
        stride(x, "keep if 999<998+2", 0);
        stride(x, "keep if 0<001", 0);
        wrongLaw("keep if 1000>1", 8);
        wrongLaw("keep if 1>0000", 10);
    }

    private static void stride(SeasonWalks x, String law, int want) {
        Tapes.law(x, law);
        due.is("stride by " + law, x.monk(0, 8), want);
    }

    /** "STRIDE: 0, if some keep LINE holds; else PACE and the sum of N ..: 0 at least, 15 at most". */
    private static void strides() {
        SeasonWalks x = Tapes.told("monk at 1 stall 0 pace 8");
        stride(x, "", 8);
        stride(x, "haste 7", 15);
        stride(x, "haste 8", 15);
        stride(x, "haste 20;haste 20;slow 20;slow 20;slow 1", 7);
        stride(x, "slow 8", 0);
        stride(x, "slow 9", 0);
        stride(x, "slow 20;haste 20", 8);
        stride(x, "slow 20;haste 13", 1);
        stride(x, "keep;haste 20", 0);
        stride(x, "haste 20;keep", 0);
        stride(x, "keep if corner;haste 1", 9);
        stride(x, "keep if corner;keep if not corner", 0);
        stride(x, "slow 3 if corner;haste 2 if corner", 8);
        x.pace(0, 0);
        stride(x, "", 0);
        stride(x, "haste 1", 1);
        stride(x, "slow 1", 0);
    }

    /** "Without a text: PACE, 1 less in SEASON 3, 0 at least". */
    private static void stridesWithoutText() {
        SeasonWalks x = Tapes.told("monk at 11 stall 0 pace 8;monk at 12 stall 1 pace 8;monk at 15 stall 2 pace 1;"
                + "monk at 12 stall 3 pace 0;monk at 0 stall 4 pace 1");
        due.is("in autumn", x.monk(0, 8), 8);
        due.is("in winter", x.monk(1, 8), 7);
        due.is("to 0", x.monk(2, 8), 0);
        due.is("0 at least", x.monk(3, 8), 0);
        due.is("in spring", x.monk(4, 8), 1);
        x.mood(3);
        due.is("by mood", x.monk(0, 8) * 10 + x.monk(4, 8), 70);
        x.mood(2);
        due.is("not by another mood", x.monk(1, 8) * 10 + x.monk(2, 8), 81);
        Tapes.law(x, "");
        x.mood(3);
        due.is("a text without lines is one", x.monk(1, 8) * 10 + x.monk(2, 8), 81);
    }

    /** "corner: 4 divides his FLAG". */
    private static void corners() {
        for (int flag = 0; flag < 16; flag++) {
            SeasonWalks x = Tapes.told("monk at " + flag + " stall 0 pace 1");
            stride(x, "keep if corner", flag % 4 == 0 ? 0 : 1);
            stride(x, "keep if not corner", flag % 4 == 0 ? 1 : 0);
        }
    }

    /** "hungry: HUNGER is above 0". */
    private static void hungers() {
        SeasonWalks x = Tapes.told("monk at 0 stall 0 pace 1;store spring 1");
        Tapes.law(x, "keep if hungry or hour<9");
        x.hours(1);
        stride(x, "keep if hungry", 1);
        x.pace(0, 0);
        x.hours(1);
        x.pace(0, 1);
        stride(x, "keep if hungry", 0);
        stride(x, "keep if not hungry", 1);
    }

    /** Each PART at its least and its greatest. */
    private static void parts() {
        SeasonWalks x = Tapes.told("monk at 15 stall 11 pace 8;monk at 0 stall 0 pace 1;hour 23");
        holds(x, 0, "monk<1", true);
        holds(x, 1, "monk<1", false);
        holds(x, 1, "monk>0", true);
        holds(x, 0, "flag>14", true);
        holds(x, 0, "flag>15", false);
        holds(x, 1, "flag<1", true);
        holds(x, 0, "pace>7", true);
        holds(x, 0, "pace>8", false);
        holds(x, 0, "stall>10", true);
        holds(x, 0, "stall>11", false);
        holds(x, 1, "stall<1", true);
        holds(x, 0, "season>2", true);
        holds(x, 0, "season>3", false);
        holds(x, 1, "season<1", true);
        holds(x, 0, "hour>22", true);
        holds(x, 0, "hour>23", false);
        holds(x, 0, "late<1", true);
        x.mood(1);
        holds(x, 0, "season>0 and season<2", true);
        x.hours(1);
        holds(x, 0, "hour<1", true);
        Tapes.law(x, "keep");
        x.hours(1);
        holds(x, 0, "late>0", true);
        holds(x, 0, "late>1", false);
    }

    private static void holds(SeasonWalks x, int monk, String condition, boolean want) {
        Tapes.law(x, "slow 20;haste 20;slow 20;haste 20 if " + condition);
        due.is(condition + " of " + monk, x.monk(monk, 8) > 0, want);
    }

    /** "SUM < SUM | SUM > SUM. SUM: PART { + PART }": alike is neither. */
    private static void compared() {
        SeasonWalks x = Tapes.told("monk at 7 stall 3 pace 4");
        holds(x, 0, "3<4", true);
        holds(x, 0, "4<4", false);
        holds(x, 0, "5<4", false);
        holds(x, 0, "5>4", true);
        holds(x, 0, "4>4", false);
        holds(x, 0, "3>4", false);
        holds(x, 0, "flag<pace+stall", false);
        holds(x, 0, "flag<pace+stall+1", true);
        holds(x, 0, "flag+1>pace+stall", true);
        holds(x, 0, "999+999>998+999", true);
        holds(x, 0, "999+1<998+2", false);
        holds(x, 0, "1>2 or 1<1 or 1>1", false);
        holds(x, 0, "2<1 or 1<1 or 1>1", false);
        holds(x, 0, "2>1 and 2>1 and 1<2 and 1<2 and 3>2", true);
        wrongLaw("keep if 1=1", 9);
        wrongLaw("keep if 1<", 10);
        wrongLaw("keep if <1", 8);
        wrongLaw("keep if 1+", 10);
        wrongLaw("keep if 1++1<2", 10);
        wrongLaw("keep if 1<2<3", 11);
        wrongLaw("keep if 1", 9);
        wrongLaw("keep if 1-1<2", 9);
        wrongLaw("keep if (1)<2", 10);
    }

    /** "( and not within one another at most 6 deep": a 7th one is wrong at itself. */
    private static void sixDeep() {
        SeasonWalks x = Tapes.told("monk at 0 stall 0 pace 1");
        stride(x, "keep if ((((((corner))))))", 0);
        stride(x, "keep if not not not not not not corner", 0);
        stride(x, "keep if not(not(not(corner)))", 1);
        stride(x, "keep if ((((((corner)))))) and ((((((1<2))))))", 0);
        stride(x, "keep if not(hungry or not(hungry or not(hungry)))", 0);
        wrongLaw("keep if (((((((corner)))))))", 14);
        wrongLaw("keep if not not not not not not not corner", 32);
        wrongLaw("keep if not(not(not(not corner)))", 20);
        wrongLaw("keep if not(not(not((corner))))", 20);
        wrongLaw("keep if corner or ((((((not corner))))))", 24);
        wrongLaw("keep if ((((((corner)))))) and (((((((1<2)))))))", 37);
        wrongLaw("keep if (((((((", 14);
        wrongLaw("keep if ((((((", 14);
        wrongLaw("keep;keep if (((((((x", 19);
    }

    /** "C: ALL { or ALL }; ALL: ATOM { and ATOM }": and binds more, and nothing may be missing. */
    private static void allAndAny() {
        SeasonWalks x = Tapes.told("monk at 0 stall 0 pace 1");
        holds(x, 0, "corner or hungry and hungry", true);
        holds(x, 0, "hungry and hungry or corner", true);
        holds(x, 0, "(corner or hungry) and hungry", false);
        holds(x, 0, "hungry or hungry or corner", true);
        holds(x, 0, "corner and corner and hungry", false);
        holds(x, 0, "corner and corner", true);
        holds(x, 0, "corner and not hungry and corner", true);
        holds(x, 0, "hungry or hungry", false);
        holds(x, 0, "not hungry and hungry", false);
        holds(x, 0, "not(hungry and hungry)", true);
        wrongLaw("keep if", 7);
        wrongLaw("keep if ", 8);
        wrongLaw("keep if or corner", 8);
        wrongLaw("keep if corner or", 17);
        wrongLaw("keep if corner and", 18);
        wrongLaw("keep if corner and or corner", 19);
        wrongLaw("keep if corner corner", 15);
        wrongLaw("keep if ()", 9);
        wrongLaw("keep if (corner", 15);
        wrongLaw("keep if corner)", 14);
        wrongLaw("keep if not", 11);
        wrongLaw("keep if not and", 12);
        wrongLaw("keep corner", 5);
    }

    /** "The first wrong byte: the begin of the first thing that cannot stand there .., or the text's length". */
    private static void wrongThingsOfLaws() {
        wrongLaw("stop", 0);
        wrongLaw("  1", 2);
        wrongLaw("keep if wet", 8);
        wrongLaw("keep if walk<2", 8);
        wrongLaw("keep if grass<2", 8);
        wrongLaw("keep if hunger<2", 8);
        wrongLaw("keep if Corner", 8);
        wrongLaw("keep if corner<2", 14);
        wrongLaw("keep if 2<corner", 10);
        wrongLaw("keep if flag", 12);
        wrongLaw("keep if flag  ", 14);
        wrongLaw("keep if flag ; keep", 13);
        wrongLaw("keep or corner", 5);
        wrongLaw("slow if corner", 5);
        wrongLaw("haste 5 corner", 8);
        wrongLaw("keep,keep", 4);
        wrongLaw("keep if 1<2 3", 12);
    }

    /** The same of THE CLOISTER: only the first thing counts, and it is told where it begins. */
    private static void wrongThingsOfTexts() {
        wrong("bell 16;bell 17", 5);
        wrong("  bell   16", 9);
        wrong("bell ;", 5);
        wrong("bell ; ", 5);
        wrong("monk at ;", 8);
        wrong("monk at 16 stall 12", 8);
        wrong("monk at 1 stall 12 pace 9", 16);
        wrong("law 1", 0);
        wrong("7", 0);
        wrong("(", 0);
        wrong("bell (3)", 5);
        wrong("store spring store", 13);
        wrong("store fall 3", 6);
        wrong("bell 3 bell 4", 7);
        wrong("bell   ", 7);
    }

    /** "The first wrong byte of the latest text that was read; NONE without one, and ahead of any." */
    private static void faultOfLatestText() {
        SeasonWalks x = new SeasonWalks();
        due.is("ahead of any", x.fault(), NONE);
        Tapes.text(x, "bell");
        due.noNumber("bell", x::cloister);
        due.is("of the cloister", x.fault(), 4);
        Tapes.text(x, "keep if");
        due.noNumber("keep if", x::law);
        due.is("of the law", x.fault(), 7);
        Tapes.bytes(x, 99, 99, 99);
        due.noNumber("rows are no text", () -> x.seen(true));
        due.is("of the law yet", x.fault(), 7);
        Tapes.cloister(x, "");
        due.is("without one", x.fault(), NONE);
        Tapes.text(x, ";");
        due.noNumber(";", x::law);
        due.is("at 0", x.fault(), 0);
        Tapes.law(x, "keep");
        due.is("none again", x.fault(), NONE);
    }

    private static void right(String text) {
        SeasonWalks x = new SeasonWalks();
        due.is(text, Tapes.cloister(x, text), 1);
        due.is("no fault of " + text, x.fault(), NONE);
    }

    private static void wrong(String text, int at) {
        SeasonWalks x = new SeasonWalks();
        Tapes.text(x, text);
        due.noNumber(text, x::cloister);
        due.is("fault of " + text, x.fault(), at);
        due.is("used up by " + text, x.end(1), false);
        due.is("monks and texts of " + text, x.count(0) + x.count(1), 0);
    }

    private static void wrongLaw(String text, int at) {
        SeasonWalks x = new SeasonWalks();
        Tapes.text(x, text);
        due.noNumber(text, x::law);
        due.is("fault of " + text, x.fault(), at);
        due.is("used up by " + text, x.end(1), false);
        due.is("no law by " + text, x.count(2), NONE);
    }
}

import java.util.NoSuchElementException;

/** Each promise of ../shared/DOC.md by its number: ordinary calls, the edges it names, wrong ones. */
public final class PromiseTests {
    private static final int NONE = SeasonWalks.NONE;
    private static final String THREE = "monk at 1 stall 3 pace 3 likes ab; monk at 13 stall 0 pace 4 likes a;"
            + " monk at 9 stall 1 likes d";
    private static final Due due = new Due("promises");

    private PromiseTests() {
    }

    public static void main(String[] args) {
        p01NewObject();
        p02Feed();
        p03End();
        p04Cloister();
        p04CloisterFaults();
        p05Law();
        p05LawFaults();
        p06Fault();
        p07Monk();
        p08Store();
        p09Season();
        p10Hours();
        p10Draws();
        p11Cross();
        p12Bell();
        p13Mood();
        p14Change();
        p15Pace();
        p16Fill();
        p17Find();
        p18Choir();
        p19When();
        p20Meet();
        p21Lates();
        p22Tardy();
        p23Ring();
        p24Humour();
        p25Starves();
        p26Far();
        p27Road();
        p28Seats();
        p29Shown();
        p30Serves();
        p31Trade();
        p32Content();
        p33Seen();
        p34Ask();
        p35Rule();
        p36Tells();
        p37Share();
        p38Feeds();
        p39Pairs();
        p40Watch();
        p41Chapter();
        p42Swings();
        p43Elder();
        p44Rests();
        p45Odds();
        p46Empty();
        p47Throng();
        p48Gone();
        p49Round();
        p50Hungriest();
        p51Alike();
        p52Ahead();
        p53Trial();
        p54Span();
        p55Led();
        p56Log();
        p57Seed();
        p58Undo();
        p59Image();
        p60Back();
        p61Count();
        due.close();
    }

    private static void p01NewObject() {
        SeasonWalks x = new SeasonWalks();
        int[] want = {0, 0, NONE, 0, 0, 0, 4, 0, 4, 80, 0, 0, 0};
        for (int what = 0; what < want.length; what++) {
            due.is("new count(" + what + ")", x.count(what), want[what]);
        }
        due.is("new fault", x.fault(), NONE);
        due.is("new end(0)", x.end(0), true);
        due.is("new end(1)", x.end(1), false);
        due.is("new seed", x.seed(1), 1);
        due.is("new undo", x.undo(), false);
        due.is("new back", x.back(), false);
        for (int walk = 0; walk < 4; walk++) {
            due.is("new store", x.store(walk), 20);
        }
        due.outOfBounds("new monk", () -> x.monk(0, 0));
        due.is("none", SeasonWalks.NONE, -1);
    }

    private static void p02Feed() {
        SeasonWalks x = new SeasonWalks();
        for (int times = 1; times <= 20; times++) {
            due.is("feed", x.feed(0, 0, 0, 0, 0), 20 * times);
        }
        due.is("feed over", x.feed(0, 0, 0, 0, 0), NONE);
        due.is("end all", x.end(400), true);
        due.is("end more", x.end(401), false);
        due.is("end less", x.end(381), true);
        due.is("feed would be 401", x.feed(0, 0, 0, 0, 0), NONE);
        due.is("end as it was", x.end(382), false);
        due.is("end 380", x.end(380), true);
        due.is("feed to 400", x.feed(0, 0, 0, 0, 0), 400);
        SeasonWalks y = new SeasonWalks();
        y.feed(0x00010203, 0x04050000, 0, 0, 0);
        y.end(6);
        due.is("highest first", y.road(0, false), 5);
        y.feed(0x0f000000, 0, 0, 0, 0x00000003);
        y.end(1);
        y.feed(0x0e000000, 0, 0, 0, 0);
        y.end(2);
        due.is("behind the tape", y.road(0, true), 15);
        y.feed(0x80000000, 0, 0, 0, 0);
        y.end(1);
        due.noNumber("a byte of 128", () -> y.road(0, true));
    }

    private static void p03End() {
        SeasonWalks x = new SeasonWalks();
        x.feed(0x01020304, 0, 0, 0, 0);
        due.is("end below 0", x.end(-1), false);
        due.is("end of more", x.end(21), false);
        due.is("end of all", x.end(20), true);
        due.is("end of 3", x.end(3), true);
        due.is("end of 4", x.end(4), false);
        due.is("least", x.end(Integer.MIN_VALUE), false);
        due.is("greatest", x.end(Integer.MAX_VALUE), false);
        due.is("what is left", x.road(0, false), 3);
        due.is("used up", x.end(1), false);
        due.is("end of none", x.end(0), true);
    }

    private static void p04Cloister() {
        SeasonWalks x = new SeasonWalks();
        due.is("text 1", Tapes.cloister(x, "monk at 15 stall 11 pace 8 likes lab;bell 15;mood winter;fickle 100;"
                + "grass 20;store spring 0;store summer 999;store autumn 5;store winter 7;hour 23;day 999"), 1);
        int[] first = {15, 8, 11, 2051, 0, 0, 0, 0};
        for (int what = 0; what < first.length; what++) {
            due.is("told monk " + what, x.monk(0, what), first[what]);
        }
        int[] want = {1, 1, NONE, 23, 999, 15, 3, 100, 20, 1011};
        for (int what = 0; what < want.length; what++) {
            due.is("told count(" + what + ")", x.count(what), want[what]);
        }
        due.is("stores", x.store(0) * 1000000 + x.store(1) * 1000 + x.store(2) * 10 + x.store(3), 999057);
        due.is("text 2", Tapes.cloister(x, "  monk at0stall  001;mood own ; store  spring7 "), 2);
        due.is("second monk", x.monk(1, 2) * 100 + x.monk(1, 1) * 10 + x.monk(1, 3), 120);
        due.is("own mood", x.count(6), 4);
        due.is("glued store", x.store(0), 7);
        due.is("empty", Tapes.cloister(x, ""), 3);
        due.is("blanks", Tapes.cloister(x, "    "), 4);
        due.is("moods", Tapes.cloister(x, "mood spring;mood summer;mood autumn"), 5);
        due.is("last mood", x.count(6), 2);
        due.is("fourteen", Tapes.cloister(x, "day 1" + ";day 2".repeat(13)), 6);
        for (int texts = 7; texts <= 12; texts++) {
            due.is("text " + texts, Tapes.cloister(x, ""), texts);
        }
        Tapes.text(x, "hour 5;day 1000");
        due.noNumber("wrong ahead of too many", x::cloister);
        due.is("fault of it", x.fault(), 11);
        x.bell(3);
        Tapes.text(x, "hour 5");
        due.fails("thirteenth", UnsupportedOperationException.class, x::cloister);
        due.is("fault of the refused", x.fault(), NONE);
        due.is("used up", x.end(1), false);
        due.is("nothing stays", x.count(3), 23);
        due.is("acts stay", x.count(12), 1);
        due.is("texts", x.count(1), 12);
    }

    private static void p04CloisterFaults() {
        String monk = "monk at 1 stall 1";
        cloisterFault("monk at 16", 8);
        cloisterFault("monk at 15 stall 12", 17);
        cloisterFault("monk at 1 stall 0001", 16);
        cloisterFault("monk 1", 5);
        cloisterFault("monk at", 7);
        cloisterFault("monk at  ", 9);
        cloisterFault("monk at 1 pace 3", 10);
        cloisterFault("monk at 1 stall", 15);
        cloisterFault(monk + ";" + monk, 34);
        cloisterFault(monk + " pace 9", 23);
        cloisterFault(monk + " pace", 22);
        cloisterFault(monk + " pace likes", 23);
        cloisterFault(monk + " likes m", 24);
        cloisterFault(monk + " likes aba", 24);
        cloisterFault(monk + " likes", 23);
        cloisterFault(monk + " likes 1", 24);
        cloisterFault(monk + " likes a b", 26);
        cloisterFault(monk + " likes a pace 2", 26);
        cloisterFault(monk + " pace 2 pace 2", 25);
        cloisterFault(monk + ";", 18);
        cloisterFault(monk + "; ", 19);
        cloisterFault(monk + ";;", 18);
        cloisterFault(";", 0);
        cloisterFault(" Bell 1", 1);
        cloisterFault("bells 1", 0);
        cloisterFault("bellz 1", 0);
        cloisterFault("cell 1", 0);
        cloisterFault("bell 1/", 6);
        cloisterFault("bell 1:", 6);
        cloisterFault("bell 1`", 6);
        cloisterFault("bell 1{", 6);
        cloisterFault("bell\t1", 4);
        cloisterFault("bell -1", 5);
        cloisterFault("bell 16", 5);
        cloisterFault("bell 1 2", 7);
        cloisterFault("bell 1,", 6);
        cloisterFault("bell", 4);
        cloisterFault("mood fall", 5);
        cloisterFault("mood 3", 5);
        cloisterFault("mood", 4);
        cloisterFault("fickle 101", 7);
        cloisterFault("grass 21", 6);
        cloisterFault("store own 3", 6);
        cloisterFault("store summer 1000", 13);
        cloisterFault("store 1 1", 6);
        cloisterFault("store spring", 12);
        cloisterFault("hour 24", 5);
        cloisterFault("day 1000", 4);
        cloisterFault("hour 5;day 5;hour 24", 18);
        cloisterFault("day 1" + ";day 2".repeat(13) + " ; hour 1", 86);
        cloisterFault("day 1" + ";day 2".repeat(13) + " ; 5", 86);
        cloisterFault("day 1" + ";day 2".repeat(13) + " ; ", 86);
        cloisterFault("\u00ff", 0);
        SeasonWalks x = new SeasonWalks();
        Tapes.cloister(x, "monk at 0 stall 0;monk at 0 stall 1;monk at 0 stall 2;monk at 0 stall 3;"
                + "monk at 0 stall 4;monk at 0 stall 5");
        Tapes.text(x, "monk at 0 stall 6; monk at 99");
        due.noNumber("an eighth", x::cloister);
        due.is("fault of an eighth", x.fault(), 19);
        due.is("none of it stays", x.count(0), 6);
        x.change(0, 5);
        Tapes.text(x, "monk at 0 stall 5");
        due.noNumber("a stall of one by then", x::cloister);
        due.is("fault of the stall", x.fault(), 16);
        due.is("a seventh", Tapes.cloister(x, "monk at 0 stall 11"), 2);
    }

    private static void cloisterFault(String text, int want) {
        SeasonWalks x = new SeasonWalks();
        Tapes.text(x, text);
        due.noNumber(text, x::cloister);
        due.is("fault of " + text, x.fault(), want);
        due.is("monks of " + text, x.count(0), 0);
        due.is("texts of " + text, x.count(1), 0);
        due.is("hour of " + text, x.count(3), 0);
        due.is("tape of " + text, x.end(1), false);
    }

    private static void p05Law() {
        SeasonWalks x = Tapes.told("monk at 3 stall 7 pace 4; monk at 8 stall 2 pace 1; monk at 13 stall 5 pace 8;"
                + "hour 7; store autumn 0");
        strides(x, "no law", 4, 1, 7);
        due.is("empty law", Tapes.law(x, "  "), 0);
        strides(x, "empty law", 4, 1, 8);
        law(x, "slow 2", 1, 2, 0, 6);
        law(x, "haste 20", 1, 15, 15, 15);
        law(x, "slow 20;haste 20 ; haste 3", 3, 7, 4, 11);
        law(x, "keep", 1, 0, 0, 0);
        law(x, "haste 9;keep if monk < 1", 2, 0, 10, 15);
        law(x, "haste 1 if monk>0", 1, 4, 2, 9);
        law(x, "haste 1 if flag>3", 1, 4, 2, 9);
        law(x, "haste 1 if pace<4", 1, 4, 2, 8);
        law(x, "haste 1 if season>1", 1, 4, 2, 9);
        law(x, "haste 1 if late<1", 1, 5, 2, 9);
        law(x, "haste 1 if hour>6", 1, 5, 2, 9);
        law(x, "haste 1 if hour<7", 1, 4, 1, 8);
        law(x, "haste 1 if stall>4", 1, 5, 1, 9);
        law(x, "haste 1 if corner", 1, 4, 2, 8);
        law(x, "haste 1 if hungry", 1, 4, 1, 8);
        law(x, "haste 1 if 2+flag+001<pace+999+1", 1, 5, 2, 9);
        law(x, "haste 1 if not corner", 1, 5, 1, 9);
        law(x, "haste 1 if monk<1 or monk>0 and monk>1", 1, 5, 1, 9);
        law(x, "haste 1 if(monk<1 or monk>0)and monk>1", 1, 4, 1, 9);
        law(x, "haste 1 if not monk<1 and not(monk>1)", 1, 4, 2, 8);
        law(x, "haste 1 if monk<1 or not monk<2", 1, 5, 1, 9);
        law(x, "haste 1 if not(not(not(corner)))", 1, 5, 1, 9);
        law(x, "haste 1 if ((((((corner)))))) and not not not not not not corner", 1, 4, 2, 8);
        law(x, "keep if 1>2;haste 1 if 3>2;slow 3 if 2<2", 3, 5, 2, 9);
        law(x, "slow 0" + ";slow 0".repeat(11), 12, 4, 1, 8);
        x.hours(2);
        due.is("hungry then", x.monk(1, 6), 2);
        law(x, "haste 1 if hungry", 1, 5, 2, 8);
        x.hours(72);
        due.is("late then", x.monk(1, 5) > 4, true);
        int pace = x.monk(1, 1);
        Tapes.law(x, "haste 7 if late>4");
        due.is("late stride", x.monk(1, 8), pace + 7);
        x.mood(1);
        Tapes.law(x, "keep if season<2");
        due.is("season by mood", x.monk(2, 8), 0);
        String longest = "keep if1<2" + "or1<2".repeat(78);
        due.is("longest", Tapes.law(x, longest), 1);
        due.is("longest holds", x.monk(0, 8), 0);
        x.bell(1);
        due.is("longest sum", Tapes.law(x, "keep if" + "0+".repeat(195) + "1>0"), 1);
        due.is("longest sum holds", x.monk(0, 8), 0);
        due.is("no acts behind a law", x.undo(), false);
    }

    private static void law(SeasonWalks x, String text, int lines, int first, int second, int third) {
        due.is("lines of " + text, Tapes.law(x, text), lines);
        due.is("fault of " + text, x.fault(), NONE);
        due.is("count of " + text, x.count(2), lines);
        strides(x, text, first, second, third);
    }

    private static void strides(SeasonWalks x, String text, int first, int second, int third) {
        due.is("first by " + text, x.monk(0, 8), first);
        due.is("second by " + text, x.monk(1, 8), second);
        due.is("third by " + text, x.monk(2, 8), third);
    }

    private static void p05LawFaults() {
        lawFault("slow 21", 5);
        lawFault("slow 0020", 5);
        lawFault("haste", 5);
        lawFault("haste if corner", 6);
        lawFault("keep 1", 5);
        lawFault("keeps", 0);
        lawFault("2", 0);
        lawFault("keep;", 5);
        lawFault("keep if", 7);
        lawFault("keep if if", 8);
        lawFault("keep if hungry<2", 14);
        lawFault("keep if pace<", 13);
        lawFault("keep if pace", 12);
        lawFault("keep if pace corner", 13);
        lawFault("keep if pace=2", 12);
        lawFault("keep if pace<2<3", 14);
        lawFault("keep if pace+", 13);
        lawFault("keep if pace+<2", 13);
        lawFault("keep if pace<corner", 13);
        lawFault("keep if lost<2", 8);
        lawFault("keep if 1000<2", 8);
        lawFault("keep if 2<0001", 10);
        lawFault("keep if (corner", 15);
        lawFault("keep if (corner;keep", 15);
        lawFault("keep if corner)", 14);
        lawFault("keep if ()", 9);
        lawFault("keep if (pace)<2", 13);
        lawFault("keep if corner and", 18);
        lawFault("keep if corner or or", 18);
        lawFault("keep if corner hungry", 15);
        lawFault("keep if not", 11);
        lawFault("keep if not not not not not not not corner", 32);
        lawFault("keep if (((((((corner)))))))", 14);
        lawFault("keep if not(not(not(not corner)))", 20);
        lawFault("keep if corner or not (((((( corner", 27);
        lawFault("keep" + ";keep".repeat(11) + "; keep if", 61);
        lawFault("keep" + ";keep".repeat(11) + ";", 60);
        lawFault("Keep", 0);
    }

    private static void lawFault(String text, int want) {
        SeasonWalks x = Tapes.told("monk at 4 stall 0 pace 5");
        Tapes.law(x, "haste 2");
        x.bell(2);
        Tapes.text(x, text);
        due.noNumber(text, x::law);
        due.is("fault of " + text, x.fault(), want);
        due.is("the law before " + text, x.monk(0, 8), 7);
        due.is("lines before " + text, x.count(2), 1);
        due.is("acts before " + text, x.count(12), 1);
        due.is("tape of " + text, x.end(1), false);
    }

    private static void p06Fault() {
        SeasonWalks x = new SeasonWalks();
        due.is("ahead of any", x.fault(), NONE);
        Tapes.text(x, "bell x");
        due.noNumber("bell x", x::cloister);
        due.is("of the cloister", x.fault(), 5);
        Tapes.bytes(x, 16);
        due.noNumber("road", () -> x.road(0, true));
        x.image();
        x.bell(2);
        x.undo();
        x.back();
        due.is("as before", x.fault(), 5);
        Tapes.law(x, "keep");
        due.is("none", x.fault(), NONE);
        Tapes.text(x, "keep x");
        due.noNumber("keep x", x::law);
        x.back();
        due.is("of the law", x.fault(), 5);
        Tapes.cloister(x, "");
        due.is("none again", x.fault(), NONE);
    }

    private static void p07Monk() {
        SeasonWalks x = Tapes.told("monk at 12 stall 6 pace 5 likes cl;monk at 2 stall 0 pace 0;bell 2;grass 9;hour 1;"
                + "mood spring");
        x.cross(0);
        int[] want = {4, 5, 6, 2052, 9, 0, 0, 0, 5, 0};
        for (int what = 0; what < want.length; what++) {
            due.is("monk(0, " + what + ")", x.monk(0, what), want[what]);
        }
        x.find(0);
        x.hours(3);
        int[] then = {3, 5, 6, 2052, 0, 1, 0, 1, 5, 100};
        for (int what = 0; what < then.length; what++) {
            due.is("then monk(0, " + what + ")", x.monk(0, what), then[what]);
        }
        x.bell(9);
        x.hours(6);
        due.is("lag rounds down", x.monk(1, 9), 40);
        due.is("lag of the other", x.monk(0, 9), 60);
        due.fails("monk what 10", NoSuchElementException.class, () -> x.monk(0, 10));
        due.fails("monk what -1", NoSuchElementException.class, () -> x.monk(1, -1));
        due.outOfBounds("monk 2", () -> x.monk(2, 99));
        due.outOfBounds("monk -1", () -> x.monk(-1, 0));
        Tapes.cloister(x, "mood winter");
        due.is("stride in winter", x.monk(0, 8), 4);
        due.is("stride of no pace", x.monk(1, 8), 0);
    }

    private static void p08Store() {
        SeasonWalks x = Tapes.told("store spring 1;store summer 2;store autumn 3;store winter 4");
        for (int walk = 0; walk < 4; walk++) {
            due.is("store", x.store(walk), walk + 1);
        }
        due.outOfBounds("store 4", () -> x.store(4));
        due.outOfBounds("store -1", () -> x.store(-1));
    }

    private static void p09Season() {
        SeasonWalks x = new SeasonWalks();
        for (int flag = 0; flag < 16; flag++) {
            due.is("own season " + flag, x.season(flag), flag / 4);
        }
        for (int mood = 0; mood < 4; mood++) {
            x.mood(mood);
            due.is("season by mood", x.season(0) * 10 + x.season(15), 11 * mood);
        }
        due.outOfBounds("season 16", () -> x.season(16));
        due.outOfBounds("season -1", () -> x.season(-1));
    }

    private static void p10Hours() {
        SeasonWalks x = new SeasonWalks();
        due.noNumber("hours(0)", () -> x.hours(0));
        due.noNumber("hours(73)", () -> x.hours(73));
        due.noNumber("hours(-1)", () -> x.hours(-1));
        due.is("hours of nobody", x.hours(72), 0);
        due.is("summer alone has more", x.store(1) * 100 + x.store(0), 16420);
        due.is("days", x.count(4), 3);
        SeasonWalks y = Tapes.told("monk at 14 stall 0 pace 3;monk at 0 stall 1 pace 0;monk at 1 stall 2 pace 2;"
                + "store spring 2;hour 22;day 8;grass 2");
        y.cross(2);
        due.is("no office", y.hours(2), 0);
        due.is("an hour more", y.count(3), 0);
        due.is("a day more", y.count(4), 9);
        due.is("on by the stride", y.monk(0, 0), 3);
        due.is("round from winter", y.monk(0, 7), 1);
        due.is("over the grass", y.monk(2, 0), 9);
        due.is("lost no more", y.monk(2, 4), 0);
        due.is("store is eaten", y.store(0), 0);
        due.is("store of the found", y.store(2), 19);
        due.is("first had none", y.monk(0, 6), 1);
        due.is("second had one", y.monk(1, 6), 1);
        due.is("office at 0", y.hours(1), 2);
        due.is("late", y.monk(0, 5) * 100 + y.monk(1, 5) * 10 + y.monk(2, 5), 101);
        due.is("hungry", y.monk(1, 6), 2);
        due.is("fed", y.monk(0, 6), 0);
        SeasonWalks z = Tapes.told("monk at 1 stall 1 pace 0; store spring 0");
        for (int times = 0; times < 42; times++) {
            due.is("every office", z.hours(72), 24);
        }
        due.is("late at most", z.monk(0, 5), 999);
        due.is("hunger at most", z.monk(0, 6), 99);
        due.is("store at most", z.store(1), 999);
        due.is("still late", z.hours(3), 1);
        due.is("late of all at most", z.count(10), 999);
        SeasonWalks w = Tapes.told("monk at 0 stall 1 pace 8; day 999");
        Tapes.law(w, "haste 8 if hour>23 or hour<1;haste 20 if hour>0");
        for (int times = 0; times < 15; times++) {
            w.hours(72);
        }
        due.is("rounds at most", w.monk(0, 7), 999);
        SeasonWalks v = Tapes.told("monk at 4 stall 0 pace 8;hour 1;mood summer;store spring 0");
        v.hours(1);
        due.is("summer in every walk", v.store(0) * 10000 + v.store(1) * 100 + v.store(2), 22222);
        due.is("eaten, then harvested", v.store(3), 21);
        due.is("came there unhungry", v.monk(0, 0) * 10 + v.monk(0, 6), 120);
    }

    private static void p10Draws() {
        SeasonWalks x = Tapes.told("fickle 50");
        int seed = 77;
        x.seed(seed);
        int mood = 4;
        int summers = 0;
        for (int hour = 0; hour < 200; hour++) {
            seed = 1103515245 * seed + 12345;
            if ((seed >> 16 & 0x7fff) % 100 < 50) {
                seed = 1103515245 * seed + 12345;
                mood = (seed >> 16 & 0x7fff) % 5;
            }
            summers += mood == 1 ? 8 : mood == 4 ? 2 : 0;
            x.hours(1);
            due.is("mood drawn", x.count(6), mood);
            if (hour < 100) {
                due.is("stores by the mood drawn", x.count(9), 80 + summers);
            }
        }
        due.is("seed then", x.seed(0), seed);
        SeasonWalks y = new SeasonWalks();
        y.hours(1);
        due.is("a draw without fickleness", y.seed(0), 1103515245 + 12345);
        SeasonWalks z = Tapes.told("fickle 100");
        z.hours(1);
        int second = 1103515245 * (1103515245 + 12345) + 12345;
        due.is("two draws", z.seed(0), second);
        due.is("mood of the second", z.count(6), (second >> 16 & 0x7fff) % 5);
    }

    private static void p11Cross() {
        SeasonWalks x = Tapes.told("monk at 3 stall 0;monk at 12 stall 1");
        due.is("cross", x.cross(0), 11);
        due.is("lost", x.monk(0, 4), 4);
        due.is("cross from winter", x.cross(1), 4);
        due.is("not round", x.monk(1, 7), 0);
        due.fails("cross of a lost one", IllegalStateException.class, () -> x.cross(0));
        due.outOfBounds("cross 2", () -> x.cross(2));
        due.outOfBounds("cross -1", () -> x.cross(-1));
        due.is("acts", x.count(12), 2);
        Tapes.cloister(x, "grass 0");
        x.hours(4);
        x.cross(0);
        due.is("grass of none", x.monk(0, 4), 0);
        due.is("undo", x.undo() && x.monk(0, 0) == 11, true);
    }

    private static void p12Bell() {
        SeasonWalks x = new SeasonWalks();
        due.is("bell", x.bell(15), 0);
        due.is("bell again", x.bell(15), 15);
        due.is("bell then", x.count(5), 15);
        due.outOfBounds("bell 16", () -> x.bell(16));
        due.outOfBounds("bell -1", () -> x.bell(-1));
        due.is("acts", x.count(12), 2);
    }

    private static void p13Mood() {
        SeasonWalks x = new SeasonWalks();
        due.is("mood", x.mood(0), 4);
        due.is("mood again", x.mood(4), 0);
        due.is("mood then", x.count(6), 4);
        due.noNumber("mood 5", () -> x.mood(5));
        due.noNumber("mood -1", () -> x.mood(-1));
        due.is("acts", x.count(12), 2);
    }

    private static void p14Change() {
        SeasonWalks x = Tapes.told(THREE);
        due.is("change", x.change(0, 1), 0);
        due.is("the other", x.monk(1, 2), 3);
        due.is("the third", x.monk(2, 2), 1);
        due.noNumber("change of one", () -> x.change(1, 1));
        due.outOfBounds("change 3", () -> x.change(3, 3));
        due.outOfBounds("change with 3", () -> x.change(0, 3));
        due.outOfBounds("change -1", () -> x.change(-1, 0));
        due.is("acts", x.count(12), 1);
        due.is("undone", x.undo() && x.monk(0, 2) == 3 && x.monk(1, 2) == 0, true);
    }

    private static void p15Pace() {
        SeasonWalks x = Tapes.told(THREE);
        due.is("pace", x.pace(0, 8), 3);
        due.is("pace then", x.pace(0, 0), 8);
        due.noNumber("pace 9", () -> x.pace(0, 9));
        due.noNumber("pace -1", () -> x.pace(0, -1));
        due.outOfBounds("pace of nobody", () -> x.pace(3, 9));
        due.is("acts", x.count(12), 2);
        due.is("undone", x.undo() && x.monk(0, 1) == 8, true);
    }

    private static void p16Fill() {
        SeasonWalks x = new SeasonWalks();
        due.is("fill 1", x.fill(3, 1), 21);
        due.is("fill 99", x.fill(3, 99), 120);
        due.noNumber("fill 0", () -> x.fill(3, 0));
        due.noNumber("fill 100", () -> x.fill(3, 100));
        due.outOfBounds("fill of no walk", () -> x.fill(4, 0));
        due.outOfBounds("fill of walk -1", () -> x.fill(-1, 1));
        due.is("acts", x.count(12), 2);
        for (int times = 0; times < 9; times++) {
            x.fill(3, 99);
        }
        due.is("fill at most", x.fill(3, 1), 999);
        due.is("the others", x.count(9), 1059);
        due.is("undone", x.undo() && x.undo() && x.store(3) == 912, true);
    }

    private static void p17Find() {
        SeasonWalks x = Tapes.told(THREE + ";grass 7;hour 1");
        due.fails("find of one who is not lost", IllegalStateException.class, () -> x.find(0));
        x.cross(0);
        x.hours(2);
        due.is("find", x.find(0), 5);
        due.is("found", x.monk(0, 4), 0);
        due.fails("find again", IllegalStateException.class, () -> x.find(0));
        due.outOfBounds("find 3", () -> x.find(3));
        due.outOfBounds("find -1", () -> x.find(-1));
        due.is("acts", x.count(12), 3);
        due.is("undone", x.undo() && x.monk(0, 4) == 5, true);
    }

    private static void p18Choir() {
        SeasonWalks x = Tapes.told(THREE + ";bell 9");
        due.is("choir", x.choir(), 4);
        x.cross(0);
        due.is("without the lost", x.choir(), 4);
        x.find(0);
        due.is("with the found", x.choir(), 5);
        due.is("of nobody", new SeasonWalks().choir(), 0);
    }

    private static void p19When() {
        SeasonWalks x = Tapes.told("monk at 1 stall 0 pace 3;monk at 8 stall 1 pace 4;hour 1;fickle 100");
        due.is("now", x.when(0, 1), 0);
        due.is("next", x.when(0, 4), 1);
        due.is("slowed in winter", x.when(0, 15), 5);
        due.is("round", x.when(1, 9), 9);
        due.is("never", x.when(0, 0), NONE);
        x.cross(1);
        due.is("lost", x.when(1, 0), 4);
        due.outOfBounds("when 2", () -> x.when(2, 0));
        due.outOfBounds("when flag 16", () -> x.when(0, 16));
        due.outOfBounds("when flag -1", () -> x.when(0, -1));
        due.is("nothing comes of it", x.count(3), 1);
        SeasonWalks y = Tapes.told("monk at 0 stall 0 pace 1");
        Tapes.law(y, "keep if not (hour<1)");
        due.is("as hours go", y.when(0, 3), 49);
        due.is("at the last", y.when(0, 4), NONE);
        y.hours(1);
        y.hours(2);
        due.is("by the last hour", y.when(0, 4), 70);
        SeasonWalks z = Tapes.told("monk at 0 stall 0 pace 1;hour 1");
        Tapes.law(z, "keep if hour>0");
        due.is("seventy", z.when(0, 3), 72);
        z.hours(23);
        due.is("more hours", z.when(0, 4), NONE);
    }

    private static void p20Meet() {
        SeasonWalks x = Tapes.told("monk at 1 stall 0 pace 3;monk at 13 stall 1 pace 4;monk at 9 stall 2 pace 0;"
                + "monk at 9 stall 3 pace 0;grass 5;hour 1;store winter 0;store spring 1");
        due.is("meet", x.meet(0, 1), 5);
        due.is("meet turned round", x.meet(1, 0), 5);
        due.is("now", x.meet(2, 3), 0);
        x.cross(2);
        due.is("not the lost", x.meet(2, 3), NONE);
        x.cross(3);
        due.is("both lost", x.meet(2, 3), 5);
        due.noNumber("meet of one", () -> x.meet(1, 1));
        SeasonWalks y = Tapes.told("monk at 0 stall 0 pace 1;monk at 3 stall 1 pace 0;hour 1");
        Tapes.law(y, "keep if hour>0");
        due.is("at the last", y.meet(0, 1), 72);
        y.hours(23);
        y.cross(1);
        y.find(1);
        due.is("too late", y.meet(0, 1), NONE);
        due.outOfBounds("meet 4", () -> x.meet(4, 4));
        due.outOfBounds("meet with -1", () -> x.meet(0, -1));
    }

    private static void p21Lates() {
        SeasonWalks x = Tapes.told("monk at 3 stall 0 pace 0;monk at 0 stall 1 pace 0;hour 3;fickle 100");
        due.is("none", x.lates(0), 0);
        due.is("one, now", x.lates(1), 1);
        due.is("nine", x.lates(9), 9);
        x.hours(1);
        due.is("one later", x.lates(1), x.count(6) == 9 ? 0 : 1);
        due.noNumber("lates 10", () -> x.lates(10));
        due.noNumber("lates -1", () -> x.lates(-1));
        due.is("nothing comes of it", x.count(10), 1);
        SeasonWalks y = Tapes.told("monk at 15 stall 0 pace 1;hour 2;mood spring");
        due.is("late after three hours, then more", y.lates(1) * 10 + y.lates(2), 12);
        SeasonWalks z = Tapes.told("monk at 15 stall 0 pace 1;hour 0;mood spring");
        due.is("in time, then late", z.lates(1) * 10 + z.lates(2), 1);
    }

    private static void p22Tardy() {
        SeasonWalks x = Tapes.told("monk at 0 stall 0 pace 0;monk at 4 stall 1 pace 0;monk at 5 stall 2 pace 0");
        due.is("tardy", x.tardy(), 1);
        x.bell(4);
        due.is("the least", x.tardy(), 0);
        due.is("nobody", Tapes.told("monk at 0 stall 0 pace 0").tardy(), NONE);
        due.is("of nobody", new SeasonWalks().tardy(), NONE);
        SeasonWalks y = Tapes.told("monk at 8 stall 0 pace 8;monk at 1 stall 1 pace 0");
        due.is("the most", y.tardy(), 1);
        for (int times = 0; times < 42; times++) {
            y.hours(72);
        }
        due.is("late at most already", y.monk(1, 5) == 999 && y.tardy() == 1, true);
        // From the hour 0 on the eighth office is at 21, the ninth at 0 again.
        SeasonWalks z = Tapes.told("monk at 0 stall 0 pace 1");
        Tapes.law(z, "keep if hour<20");
        due.is("once, in the eighth", z.tardy(), 0);
        Tapes.law(z, "keep if hour<22 or hour>22");
        due.is("in the ninth", z.tardy(), NONE);
        due.is("nine offices", z.lates(8) * 10 + z.lates(9), 1);
    }

    private static void p23Ring() {
        SeasonWalks x = Tapes.told("monk at 6 stall 0 pace 0;monk at 9 stall 1 pace 0;monk at 9 stall 2 pace 0");
        due.is("ring", x.ring(), 9);
        due.is("the bell stays", x.count(5), 0);
        due.is("the least", Tapes.told("monk at 9 stall 1 pace 0;monk at 6 stall 0 pace 0").ring(), 6);
        // From 0 he goes to 2 and stays: by the bell at 0 late 7 of 8 times, at 2 once.
        SeasonWalks y = Tapes.told("monk at 0 stall 0 pace 1;hour 0");
        Tapes.law(y, "keep if hour<1 or hour>2");
        due.is("where he stays", y.ring(), 2);
        // At 5 for four offices, then at 9 for four; a ninth would be at 9.
        SeasonWalks z = Tapes.told("monk at 5 stall 0 pace 4;hour 0");
        Tapes.law(z, "keep if not(9<hour and hour<11)");
        due.is("as often at both", z.ring(), 5);
        // At 9 for four offices, then at 5 for four; without the eighth 9 were better.
        SeasonWalks w = Tapes.told("monk at 9 stall 0 pace 8;hour 0");
        Tapes.law(w, "slow 4;keep if not(9<hour and hour<13)");
        due.is("as often, behind", w.ring(), 5);
        due.is("of nobody", new SeasonWalks().ring(), 0);
    }

    private static void p24Humour() {
        SeasonWalks x = Tapes.told("monk at 15 stall 0 pace 1; mood spring");
        Tapes.law(x, "keep if not season>1;haste 1 if season>2");
        // By winter (3) he goes on 2 an hour from 15, never to 0; by autumn (2) 1: he is at 0 at the hour 0.
        due.is("humour", x.humour(), 2);
        due.is("the mood stays", x.count(6), 0);
        due.is("the least", new SeasonWalks().humour(), 0);
        SeasonWalks y = Tapes.told("monk at 12 stall 0 pace 4");
        Tapes.law(y, "keep if season<3");
        due.is("winter by mood goes on", y.humour(), 4);
    }

    private static void p25Starves() {
        SeasonWalks x = Tapes.told("monk at 0 stall 0 pace 0;store spring 3;hour 1");
        due.is("starves", x.starves(), 4);
        x.fill(0, 68);
        due.is("at the last", x.starves(), 72);
        x.fill(0, 1);
        due.is("never", x.starves(), NONE);
        noDraws();
        due.is("nobody", new SeasonWalks().starves(), NONE);
        SeasonWalks y = Tapes.told("monk at 0 stall 0 pace 0;store spring 0");
        y.hours(1);
        due.is("now", y.starves(), 0);
        y.fill(0, 5);
        due.is("hungry yet", y.starves(), 0);
    }

    /** What comes ahead comes without draws: a fickle mood changes nothing. */
    private static void noDraws() {
        String text = "monk at 5 stall 0 pace 2;monk at 0 stall 1 pace 3;monk at 8 stall 2 pace 1;bell 3;mood spring";
        SeasonWalks x = Tapes.told(text);
        SeasonWalks y = Tapes.told(text + ";fickle 100");
        Tapes.law(x, "haste 3 if season>0;slow 1 if season>2");
        Tapes.law(y, "haste 3 if season>0;slow 1 if season>2");
        for (int m = 0; m < 3; m++) {
            for (int flag = 0; flag < 16; flag++) {
                due.is("when", y.when(m, flag), x.when(m, flag));
            }
            due.is("meet", y.meet(m, (m + 1) % 3), x.meet(m, (m + 1) % 3));
            due.is("ahead", y.ahead(m, 70, 0), x.ahead(m, 70, 0));
        }
        due.is("lates", y.lates(9), x.lates(9));
        due.is("ring", y.ring(), x.ring());
        due.is("humour", y.humour(), x.humour());
        due.is("tardy", y.tardy(), x.tardy());
        Tapes.cloister(x, "store spring 9;store summer 3;store autumn 2;store winter 1");
        Tapes.cloister(y, "store spring 9;store summer 3;store autumn 2;store winter 1");
        due.is("starves", y.starves(), x.starves());
        due.is("hunger", y.ahead(0, 40, 2), x.ahead(0, 40, 2));
        due.is("no draw was made", y.seed(1), 1);
    }

    private static void p26Far() {
        SeasonWalks x = new SeasonWalks();
        due.is("one", x.far(0, 15), 1);
        due.is("none", x.far(7, 7), 0);
        due.is("over", x.far(0, 8), 4);
        due.is("over and back one", x.far(7, 0), 5);
        due.is("six steps", x.far(0, 6), 6);
        due.is("across the end", x.far(14, 3), 5);
        Tapes.cloister(x, "grass 0");
        due.is("one at least", x.far(0, 8), 1);
        due.is("with steps", x.far(0, 5), 4);
        Tapes.cloister(x, "grass 20");
        due.is("never over", x.far(0, 8), 8);
        due.outOfBounds("far 16", () -> x.far(0, 16));
        due.outOfBounds("far from 16", () -> x.far(16, 0));
        due.outOfBounds("far -1", () -> x.far(-1, 0));
    }

    private static void p27Road() {
        SeasonWalks x = new SeasonWalks();
        due.is("no flags", x.road(3, false), 0);
        due.is("no next", x.road(3, true), NONE);
        road(x, 0, 12, 4, 4, 12, 8);
        road(x, 0, 3, 1, 1, 2, 3);
        road(x, 0, 3, 15, 15, 14, 13);
        road(x, 5, 0, 5, 5);
        road(x, 0, 2 + 4, 2, 14, 2);
        road(x, 2, 14, 0, 0, 4, 8, 12, 1, 5, 9);
        due.is("seven unordered", roadOf(x, 2, false, 9, 1, 5, 0, 12, 8, 4), 14);
        noRoad(x, 4, 4);
        noRoad(x, 16);
        noRoad(x, 255);
        noRoad(x, 0, 1, 2, 3, 4, 5, 6, 7);
        Tapes.bytes(x, 4);
        due.outOfBounds("road from 16", () -> x.road(16, true));
        due.is("used up", x.road(0, false), 0);
        Tapes.bytes(x, 4, 4);
        due.outOfBounds("road from -1", () -> x.road(-1, true));
    }

    private static void road(SeasonWalks x, int from, int way, int next, int... flags) {
        due.is("road", roadOf(x, from, false, flags), way);
        due.is("next", roadOf(x, from, true, flags), next);
    }

    private static int roadOf(SeasonWalks x, int from, boolean next, int... flags) {
        Tapes.bytes(x, flags);
        return x.road(from, next);
    }

    private static void noRoad(SeasonWalks x, int... flags) {
        Tapes.bytes(x, flags);
        due.noNumber("no road", () -> x.road(0, true));
        due.is("used up", x.end(1), false);
    }

    private static void p28Seats() {
        SeasonWalks x = Tapes.told(THREE);
        seats(x, 3, 1, 0, 3);
        SeasonWalks y = Tapes.told("monk at 0 stall 0 likes ab;monk at 0 stall 1 likes ab;monk at 0 stall 2 likes ab;"
                + "monk at 0 stall 3;monk at 0 stall 4 likes al");
        seats(y, 3, 0, 1, NONE, NONE, 11);
        SeasonWalks z = Tapes.told("monk at 0 stall 0 likes c;monk at 0 stall 1 likes c;monk at 0 stall 2 likes cl");
        seats(z, 2, 2, NONE, 11);
        due.is("nobody", new SeasonWalks().seats(NONE), 0);
        due.outOfBounds("seats 3", () -> x.seats(3));
        due.outOfBounds("seats -2", () -> x.seats(-2));
    }

    private static void seats(SeasonWalks x, int many, int... seat) {
        due.is("seats", x.seats(NONE), many);
        for (int m = 0; m < seat.length; m++) {
            due.is("seat of " + m, x.seats(m), seat[m]);
        }
    }

    private static void p29Shown() {
        due.is("none", Tapes.told(THREE).shown(), 0);
        due.is("nobody", new SeasonWalks().shown(), 0);
        due.is("one who likes nothing", Tapes.told("monk at 0 stall 0 likes a;monk at 0 stall 1 likes a;"
                + "monk at 0 stall 2;monk at 0 stall 3").shown(), 4);
        due.is("two of one month", Tapes.told("monk at 0 stall 0 likes ab;monk at 0 stall 1 likes l;"
                + "monk at 0 stall 2 likes ab;monk at 0 stall 3 likes l").shown(), 10);
        due.is("the first likes nothing", Tapes.told("monk at 0 stall 0;monk at 0 stall 1 likes a").shown(), 1);
        StringBuilder seven = new StringBuilder("monk at 0 stall 0 likes abcdef");
        for (int m = 1; m < 7; m++) {
            seven.append(";monk at 0 stall ").append(m).append(" likes abcdef");
        }
        due.is("seven of six", Tapes.told(seven.toString()).shown(), 127);
        due.is("three of two", Tapes.told("monk at 0 stall 0 likes ab;monk at 0 stall 1 likes ac;"
                + "monk at 0 stall 2 likes ab;monk at 0 stall 3 likes ab").shown(), 13);
    }

    private static void p30Serves() {
        SeasonWalks x = Tapes.told(THREE + ";monk at 0 stall 9 likes l");
        due.is("a", x.serves(0), 3);
        due.is("b", x.serves(1), 1);
        due.is("c", x.serves(2), 0);
        due.is("l", x.serves(11), 8);
        due.outOfBounds("serves 12", () -> x.serves(12));
        due.outOfBounds("serves -1", () -> x.serves(-1));
    }

    private static void p31Trade() {
        SeasonWalks x = Tapes.told(THREE);
        trade(x, 2, 1, 0);
        rings(x, 2, 1, 2);
        SeasonWalks y = Tapes.told("monk at 0 stall 0 likes l;monk at 0 stall 11 likes f;monk at 0 stall 5 likes a;"
                + "monk at 0 stall 6 likes g;monk at 0 stall 7 likes a");
        trade(y, 1, 2, 0, 3, 4);
        rings(y, 3, 3, 3, 1, 1);
        // Of two stalls that he likes the nearer one round the year: 11 is one from 0, 2 is two.
        SeasonWalks z = Tapes.told("monk at 0 stall 0 likes cl;monk at 0 stall 2 likes a;monk at 0 stall 11 likes a");
        trade(z, 2, 1, 0);
        // As near one way as the other: the least number.
        SeasonWalks w = Tapes.told("monk at 0 stall 6 likes eih;monk at 0 stall 8 likes g;monk at 0 stall 4 likes g");
        trade(w, 1, 0, 2);
        // From 3 the month 1 is two off, 8 is five.
        SeasonWalks v = Tapes.told("monk at 0 stall 3 likes bi;monk at 0 stall 8 likes d;monk at 0 stall 1 likes d");
        trade(v, 2, 1, 0);
        // None likes any month: each keeps his own.
        trade(Tapes.told("monk at 0 stall 4;monk at 0 stall 5"), 0, 1);
        SeasonWalks chain = new SeasonWalks();
        Tapes.cloister(chain, "monk at 0 stall 0 likes a;monk at 0 stall 1 likes a;monk at 0 stall 2 likes b;"
                + "monk at 0 stall 3 likes c;monk at 0 stall 4 likes d;monk at 0 stall 5 likes e;"
                + "monk at 0 stall 6 likes f");
        due.is("the last of seven times", chain.trade(6, false) * 10 + chain.trade(6, true), 61);
        SeasonWalks ring = new SeasonWalks();
        Tapes.cloister(ring, "monk at 0 stall 0 likes b;monk at 0 stall 1 likes c;monk at 0 stall 2 likes d;"
                + "monk at 0 stall 3 likes e;monk at 0 stall 4 likes f;monk at 0 stall 5 likes g;"
                + "monk at 0 stall 6 likes a");
        rings(ring, 7, 7, 7, 7, 7, 7, 7);
        trade(ring, 1, 2, 3, 4, 5, 6, 0);
        due.outOfBounds("trade 3", () -> x.trade(3, true));
        due.outOfBounds("trade -1", () -> x.trade(-1, false));
        due.is("stalls stay", x.monk(0, 2), 3);
    }

    private static void trade(SeasonWalks x, int... whose) {
        for (int m = 0; m < whose.length; m++) {
            due.is("trade of " + m, x.trade(m, false), whose[m]);
        }
    }

    private static void rings(SeasonWalks x, int... many) {
        for (int m = 0; m < many.length; m++) {
            due.is("ring of " + m, x.trade(m, true), many[m]);
        }
    }

    private static void p32Content() {
        SeasonWalks x = Tapes.told(THREE);
        due.is("content", x.content(), 2);
        x.change(0, 1);
        due.is("content by change", x.content(), 1);
        due.is("nobody", new SeasonWalks().content(), 0);
    }

    private static void p33Seen() {
        SeasonWalks x = Tapes.told("bell 1");
        due.is("all", x.seen(false), 144);
        due.is("all where", x.seen(true), 65535);
        seen(x, 9, 2, 0, 1);
        seen(x, 2, 2, 0, 1, 2, 1);
        seen(x, 1, 2, 0, 1, 1, 1);
        seen(x, 135, 65535 - 2, 0, 0);
        seen(x, 0, 0, 0, 0, 0, 1);
        seen(x, 9, 0b1000000000001110 | 1 << 5 | 1 << 9 | 1 << 13 | 1 << 11 | 1 << 7 | 1, 3, 1);
        SeasonWalks y = new SeasonWalks();
        seen(y, 1, 1, 0, 1, 1, 1);
        int[] most = new int[40];
        Tapes.bytes(x, most);
        due.is("twenty rows", x.seen(false), 135);
        noRows(x, 24, 1);
        noRows(x, 0, 2);
        noRows(x, 0);
        noRows(x, 0, 1, 0);
        noRows(x, new int[42]);
        noRows(x, 255, 1);
    }

    private static void seen(SeasonWalks x, int many, int where, int... rows) {
        Tapes.bytes(x, rows);
        due.is("seen", x.seen(false), many);
        due.is("used up", x.end(1), false);
        if (rows.length == 2 && rows[0] == 3) {
            int bits = 0;
            for (int stride = 0; stride <= 8; stride++) {
                bits |= 1 << Math.floorMod(1 - 3 * stride, 16);
            }
            where = bits;
        }
        Tapes.bytes(x, rows);
        due.is("where", x.seen(true), where);
    }

    private static void noRows(SeasonWalks x, int... rows) {
        Tapes.bytes(x, rows);
        due.noNumber("seen", () -> x.seen(true));
        due.is("used up", x.end(1), false);
        Tapes.bytes(x, rows);
        due.noNumber("seen", () -> x.seen(false));
        Tapes.bytes(x, rows);
        due.noNumber("ask", x::ask);
        due.is("used up", x.end(1), false);
    }

    private static void p34Ask() {
        SeasonWalks x = Tapes.told("bell 1");
        due.is("all", x.ask(), 0);
        due.is("two left", askOf(x, 0, 1, 2, 1), 1);
        due.is("one left", askOf(x, 0, 1, 1, 1), NONE);
        due.is("none left", askOf(x, 0, 1, 0, 0), NONE);
        // Of the strides 0 to 8 from the bell, 8 hours part the even from the odd ones: 5 and 4.
        due.is("nine left", askOf(x, 0, 1), 8);
        // From the bell at 0, strides 0 and 8 by the hour 2: an odd hour parts them.
        due.is("with the first of all", askOf(new SeasonWalks(), 0, 1, 2, 1), 1);
    }

    private static int askOf(SeasonWalks x, int... rows) {
        Tapes.bytes(x, rows);
        return x.ask();
    }

    private static void p35Rule() {
        SeasonWalks x = new SeasonWalks();
        due.is("all", x.rule(false), 25);
        due.is("least of all", x.rule(true), 0);
        rule(x, 5, 3, 0, 3);
        rule(x, 5, 3, 0, 3, 5, 3);
        rule(x, 0, NONE, 0, 3, 5, 4);
        rule(x, 1, 5 * 2 + 3, 0, 3, 1, 0);
        rule(x, 1, 5 * 4 + 1, 23, 3, 2, 4);
        noRule(x, 24, 0);
        noRule(x, 0, 5);
        noRule(x, 0);
        noRule(x, new int[42]);
        Tapes.bytes(x, new int[40]);
        due.is("twenty rows", x.rule(false), 5);
    }

    private static void rule(SeasonWalks x, int many, int least, int... rows) {
        Tapes.bytes(x, rows);
        due.is("rule", x.rule(false), many);
        Tapes.bytes(x, rows);
        due.is("least rule", x.rule(true), least);
    }

    private static void noRule(SeasonWalks x, int... rows) {
        Tapes.bytes(x, rows);
        due.noNumber("rule", () -> x.rule(false));
        due.is("used up", x.end(1), false);
        Tapes.bytes(x, rows);
        due.noNumber("rule", () -> x.rule(true));
        Tapes.bytes(x, rows);
        due.noNumber("tells", x::tells);
        due.is("used up", x.end(1), false);
    }

    private static void p36Tells() {
        SeasonWalks x = new SeasonWalks();
        due.is("all", x.tells(), 0);
        due.is("begun", tellsOf(x, 0, 3), 1);
        due.is("later", tellsOf(x, 1, 3), 0);
        due.is("one left", tellsOf(x, 0, 3, 1, 3), NONE);
        due.is("none left", tellsOf(x, 0, 3, 5, 4), NONE);
    }

    private static int tellsOf(SeasonWalks x, int... rows) {
        Tapes.bytes(x, rows);
        return x.tells();
    }

    private static void p37Share() {
        SeasonWalks x = Tapes.told("store spring 3;store summer 1;store autumn 9;store winter 1");
        due.is("none", x.share(1, 0), 1);
        due.is("the least first", x.share(1, 1) * 10 + x.share(3, 1), 21);
        due.is("then the other", x.share(1, 2) * 10 + x.share(3, 2), 22);
        due.is("on", x.share(0, 5) * 100 + x.share(1, 5) * 10 + x.share(3, 5), 433);
        due.is("stores stay", x.store(1), 1);
        due.noNumber("share 1000", () -> x.share(0, 1000));
        due.noNumber("share -1", () -> x.share(0, -1));
        due.outOfBounds("share of no walk", () -> x.share(4, -1));
        due.outOfBounds("share of walk -1", () -> x.share(-1, 0));
        SeasonWalks y = Tapes.told("store spring 999;store summer 998;store autumn 999;store winter 998");
        due.is("at most", y.share(0, 999) + y.share(1, 999) + y.share(2, 999) + y.share(3, 999), 3996);
    }

    private static void p38Feeds() {
        SeasonWalks x = Tapes.told(THREE + ";monk at 3 stall 8;monk at 0 stall 9;store winter 0");
        due.is("three", x.feeds(0), 6);
        x.cross(0);
        due.is("two", x.feeds(0), 10);
        due.is("nobody", x.feeds(1), NONE);
        due.is("the lost eat not", x.feeds(2), 20);
        due.is("nothing there", x.feeds(3), 0);
        due.outOfBounds("feeds 4", () -> x.feeds(4));
        due.outOfBounds("feeds -1", () -> x.feeds(-1));
    }

    private static void p39Pairs() {
        SeasonWalks x = Tapes.told(THREE);
        pairs(x, 1, 1, 0, NONE);
        pairs(new SeasonWalks(), 0);
        // 0 with 1 shares 2, but 0 with 2 and 1 with 3 share 4; 4 shares nothing with any.
        SeasonWalks y = Tapes.told("monk at 0 stall 0 likes abcd;monk at 0 stall 1 likes abef;"
                + "monk at 0 stall 2 likes cdl;monk at 0 stall 3 likes ef;monk at 0 stall 4 likes k");
        pairs(y, 4, 2, 3, 0, 1, NONE);
        // One of three stays alone: 0 first, as none is the least.
        SeasonWalks z = Tapes.told("monk at 0 stall 0 likes a;monk at 0 stall 1 likes a;monk at 0 stall 2 likes a");
        pairs(z, 1, NONE, 2, 1);
        SeasonWalks w = Tapes.told("monk at 0 stall 0;monk at 0 stall 1 likes a;monk at 0 stall 2 likes a");
        pairs(w, 1, NONE, 2, 1);
        SeasonWalks v = Tapes.told("monk at 0 stall 0 likes ab;monk at 0 stall 1 likes abc;"
                + "monk at 0 stall 2 likes cd;monk at 0 stall 3 likes d");
        pairs(v, 3, 1, 0, 3, 2);
        due.outOfBounds("pairs 3", () -> x.pairs(3));
        due.outOfBounds("pairs -2", () -> x.pairs(-2));
    }

    private static void pairs(SeasonWalks x, int many, int... with) {
        due.is("pairs", x.pairs(NONE), many);
        for (int m = 0; m < with.length; m++) {
            due.is("pair of " + m, x.pairs(m), with[m]);
        }
    }

    private static void p40Watch() {
        due.is("nobody", new SeasonWalks().watch(), 0);
        due.is("each his own", Tapes.told(THREE).watch(), 7);
        SeasonWalks x = Tapes.told("monk at 14 stall 0;monk at 0 stall 1;monk at 2 stall 2;monk at 15 stall 3");
        due.is("the middle one", x.watch(), 2);
        x.cross(1);
        due.is("not by the lost", x.watch(), NONE);
        x.find(1);
        due.is("far away", x.watch(), 2 + 4 + 1);
        SeasonWalks y = Tapes.told("monk at 4 stall 0;monk at 5 stall 1;monk at 12 stall 2;grass 0");
        y.cross(2);
        due.is("the least of two", y.watch(), 1);
    }

    private static void p41Chapter() {
        SeasonWalks x = walked();
        due.is("rounds", x.monk(0, 7) * 100 + x.monk(1, 7) * 10 + x.monk(2, 7), 321);
        due.is("half does not", x.chapter(1), false);
        due.is("two do", x.chapter(3) && x.chapter(5), true);
        due.is("half of two", x.chapter(6), false);
        due.is("others count for nothing", x.chapter(-2), false);
        due.is("all of it", x.chapter(-1), true);
        due.is("none", x.chapter(0), false);
        due.is("nobody", new SeasonWalks().chapter(-1), false);
    }

    /** Monks who have been round 3, 2, 1 and 0 times. */
    private static SeasonWalks walked() {
        SeasonWalks x = Tapes.told("monk at 0 stall 0 pace 6;monk at 0 stall 1 pace 4;monk at 0 stall 2 pace 2;"
                + "monk at 0 stall 3 pace 0;mood spring");
        x.hours(8);
        return x;
    }

    private static void p42Swings() {
        SeasonWalks x = walked();
        // Carrying sets need 4 of 6: {0,1}, {0,2}, {0,1,2}, each with the last one or without.
        due.is("first", x.swings(0), 6);
        due.is("second", x.swings(1), 2);
        due.is("third", x.swings(2), 2);
        due.is("last", x.swings(3), 0);
        due.outOfBounds("swings 4", () -> x.swings(4));
        due.outOfBounds("swings -1", () -> x.swings(-1));
    }

    private static void p43Elder() {
        due.is("elder", walked().elder(), 0);
        due.is("nobody", new SeasonWalks().elder(), NONE);
        due.is("no rounds", Tapes.told(THREE).elder(), NONE);
        SeasonWalks x = Tapes.told("monk at 0 stall 0 pace 0;monk at 15 stall 1;monk at 15 stall 2;mood spring");
        x.hours(1);
        due.is("the least", x.elder(), 1);
        SeasonWalks y = Tapes.told("monk at 15 stall 0;mood spring");
        y.hours(1);
        due.is("one alone", y.elder(), 0);
    }

    private static void p44Rests() {
        SeasonWalks x = Tapes.told("monk at 1 stall 0;monk at 0 stall 1;monk at 8 stall 2");
        due.is("no rest", x.rests(0), 0);
        due.is("at the bell", x.rests(1), 8);
        due.is("far away", x.rests(2), 0);
        x.cross(0);
        due.is("lost", x.rests(0), NONE);
        Tapes.cloister(x, "grass 0");
        due.is("no grass, at the bell", x.rests(1), 9);
        due.is("no grass", x.rests(2), 1);
        due.outOfBounds("rests 3", () -> x.rests(3));
        due.outOfBounds("rests -1", () -> x.rests(-1));
    }

    private static void p45Odds() {
        SeasonWalks x = Tapes.told("fickle 50");
        due.is("none of none", x.odds(0, 0), 10000);
        due.is("one of one", x.odds(1, 1), 5000);
        due.is("one of six", x.odds(6, 1), 9843);
        due.is("three of six", x.odds(6, 3), 6562);
        due.is("six of six", x.odds(6, 6), 156);
        due.is("more than hours", x.odds(3, 4), 0);
        due.noNumber("odds of 7", () -> x.odds(7, 0));
        due.noNumber("odds of 7 times", () -> x.odds(0, 7));
        due.noNumber("odds of -1", () -> x.odds(-1, 0));
        due.noNumber("odds of -1 times", () -> x.odds(0, -1));
        due.is("never fickle", new SeasonWalks().odds(6, 1), 0);
        due.is("always fickle", Tapes.told("fickle 100").odds(6, 6), 10000);
        due.is("seldom", Tapes.told("fickle 1").odds(6, 1), 585);
        due.is("seldom twice", Tapes.told("fickle 7").odds(2, 2), 49);
    }

    private static void p46Empty() {
        SeasonWalks x = Tapes.told(THREE);
        due.is("empty", x.empty(), 2);
        x.cross(0);
        due.is("the lost are there", x.empty(), 3);
        due.is("nobody", new SeasonWalks().empty(), 15);
    }

    private static void p47Throng() {
        SeasonWalks x = Tapes.told(THREE);
        due.is("the least", x.throng(), 0);
        x.cross(0);
        due.is("the lost, too", x.throng(), 2);
        due.is("nobody", new SeasonWalks().throng(), 0);
    }

    private static void p48Gone() {
        SeasonWalks x = Tapes.told(THREE);
        due.is("none", x.gone(), 0);
        x.cross(2);
        due.is("one", x.gone(), 4);
        x.cross(0);
        due.is("two", x.gone(), 5);
        x.find(2);
        due.is("one found", x.gone(), 1);
    }

    private static void p49Round() {
        SeasonWalks x = walked();
        due.is("all", x.round(0), 15);
        due.is("once", x.round(1), 7);
        due.is("twice", x.round(2), 3);
        due.is("three times", x.round(3), 1);
        due.is("four times", x.round(4), 0);
        due.is("most", x.round(999), 0);
        due.noNumber("round 1000", () -> x.round(1000));
        due.noNumber("round -1", () -> x.round(-1));
    }

    private static void p50Hungriest() {
        SeasonWalks x = Tapes.told("monk at 8 stall 0 pace 0;monk at 0 stall 1 pace 0;monk at 0 stall 2 pace 0;"
                + "monk at 4 stall 3 pace 0;store spring 1");
        due.is("none", x.hungriest(), NONE);
        x.hours(1);
        due.is("one", x.hungriest(), 2);
        due.is("nobody", new SeasonWalks().hungriest(), NONE);
        SeasonWalks y = Tapes.told("monk at 8 stall 0 pace 0;monk at 0 stall 1 pace 0;monk at 0 stall 2 pace 0;"
                + "store spring 0");
        y.hours(2);
        due.is("the least", y.hungriest(), 1);
        y.fill(0, 99);
        y.cross(0);
        y.hours(1);
        due.is("of nobody any more", y.hungriest(), NONE);
        SeasonWalks z = Tapes.told("monk at 0 stall 0 pace 0;monk at 4 stall 1 pace 0;store spring 0");
        z.hours(1);
        due.is("the first one", z.hungriest(), 0);
    }

    private static void p51Alike() {
        SeasonWalks x = Tapes.told("monk at 1 stall 0;monk at 1 stall 1;monk at 1 stall 2;monk at 2 stall 3;"
                + "monk at 1 stall 4 pace 3");
        due.is("three pairs", x.alike(), 3);
        x.pace(4, 2);
        due.is("six pairs", x.alike(), 6);
        due.is("nobody", new SeasonWalks().alike(), 0);
    }

    private static void p52Ahead() {
        SeasonWalks x = Tapes.told("monk at 4 stall 0 pace 3;monk at 0 stall 1 pace 0;bell 10;store spring 1;hour 2;"
                + "fickle 100");
        due.is("flag now", x.ahead(0, 0, 0), 4);
        due.is("flag in 2", x.ahead(0, 2, 0), 10);
        due.is("late in 2", x.ahead(0, 2, 1) * 10 + x.ahead(1, 2, 1), 1);
        due.is("late in 72", x.ahead(1, 72, 1), 24);
        due.is("hunger in 3", x.ahead(1, 3, 2), 2);
        due.noNumber("ahead 73", () -> x.ahead(0, 73, 3));
        due.noNumber("ahead -1", () -> x.ahead(0, -1, 0));
        due.fails("ahead what 3", NoSuchElementException.class, () -> x.ahead(0, 0, 3));
        due.fails("ahead what -1", NoSuchElementException.class, () -> x.ahead(0, 72, -1));
        due.outOfBounds("ahead of nobody", () -> x.ahead(2, 73, 3));
        due.is("nothing stays", x.count(3) * 100 + x.count(10) * 10 + x.monk(0, 0), 204);
        due.is("no draws", x.seed(1), 1);
    }

    private static void p53Trial() {
        String text = "monk at 4 stall 0 pace 3;monk at 0 stall 1 pace 1;fickle 60;hour 1";
        for (int seed = 0; seed < 8; seed++) {
            SeasonWalks x = Tapes.told(text);
            for (int n = 0; n <= 72; n += 9) {
                x.seed(seed);
                int late = x.trial(n, false);
                int mood = x.trial(n, true);
                due.is("nothing stays", x.count(10) == 0 && x.seed(seed) == seed && x.count(11) == 0, true);
                if (n > 0) {
                    x.hours(n);
                    due.is("late as tried", x.count(10), late);
                    due.is("mood as tried", x.count(6), mood);
                    x.undo();
                } else {
                    due.is("now", late * 10 + mood, 4);
                }
            }
        }
        due.noNumber("trial 73", () -> new SeasonWalks().trial(73, false));
        due.noNumber("trial -1", () -> new SeasonWalks().trial(-1, true));
    }

    private static void p54Span() {
        SeasonWalks x = Tapes.told("monk at 4 stall 0 pace 3;monk at 0 stall 1 pace 1;monk at 9 stall 2 pace 5;"
                + "fickle 90;hour 1");
        Tapes.law(x, "slow 1 if season>1;haste 3 if season<1");
        x.seed(99);
        int least = 999;
        int greatest = 0;
        for (int seed = 1; seed <= 6; seed++) {
            x.seed(seed);
            int late = x.trial(60, false);
            least = Math.min(least, late);
            greatest = Math.max(greatest, late);
        }
        x.seed(99);
        due.is("seeds differ", least < greatest, true);
        for (int n = 1; n <= 72; n += 4) {
            int few = 999;
            int many = 0;
            for (int seed = 1; seed <= 6; seed++) {
                x.seed(seed);
                few = Math.min(few, x.trial(n, false));
                many = Math.max(many, x.trial(n, false));
            }
            due.is("span of " + n, x.span(n, false) * 1000 + x.span(n, true), few * 1000 + many);
        }
        x.seed(99);
        due.is("least", x.span(60, false), least);
        due.is("greatest", x.span(60, true), greatest);
        due.is("none", x.span(0, true), 0);
        due.noNumber("span 73", () -> x.span(73, false));
        due.noNumber("span -1", () -> x.span(-1, true));
        due.is("nothing stays", x.seed(1) == 99 && x.count(3) == 1, true);
    }

    private static void p55Led() {
        SeasonWalks x = Tapes.told("monk at 15 stall 0 pace 3;monk at 3 stall 1 pace 0;monk at 0 stall 2 pace 0;"
                + "mood spring");
        due.is("none", x.led(0, false), 0);
        due.is("no flag", x.led(0, true), NONE);
        x.hours(1);
        due.is("round and late", x.led(0, false), 2);
        due.is("where", x.led(0, true), 2);
        x.hours(3);
        due.is("then", x.led(0, true), 11);
        due.is("the other", x.led(1, false) * 10 + x.led(1, true), 23);
        due.is("in time", x.led(2, false), 0);
        SeasonWalks y = Tapes.told("monk at 2 stall 0 pace 5;mood spring");
        y.hours(4);
        due.is("the latest", y.led(0, true), 6);
        due.is("late, round, late", y.led(0, false), 3);
        due.outOfBounds("led 3", () -> x.led(3, true));
        due.outOfBounds("led -1", () -> x.led(-1, false));
    }

    private static void p56Log() {
        SeasonWalks x = Tapes.told("monk at 3 stall 0 pace 0;monk at 14 stall 1 pace 5;hour 21;day 7;mood spring");
        due.is("none", x.log(0, 0), NONE);
        x.hours(4);
        // At 21: round (1 at 3), late 0 and 1; at 0 of the next day: late 0 and 1 (at 3 + 15 = 2, round).
        row(x, 0, 8, 0, 0, 1, 2);
        row(x, 1, 8, 0, 0, 0, 3);
        row(x, 2, 8, 0, 1, 1, 2);
        row(x, 3, 7, 21, 0, 1, 3);
        row(x, 4, 7, 21, 0, 0, 3);
        row(x, 5, 7, 21, 1, 1, 3);
        row(x, 6, NONE, NONE, NONE, NONE, NONE);
        row(x, -1, NONE, NONE, NONE, NONE, NONE);
        row(x, Integer.MIN_VALUE, NONE, NONE, NONE, NONE, NONE);
        due.fails("log what 5", NoSuchElementException.class, () -> x.log(0, 5));
        due.fails("log what -1", NoSuchElementException.class, () -> x.log(99, -1));
        SeasonWalks y = Tapes.told("monk at 3 stall 0 pace 0;monk at 2 stall 1 pace 0");
        y.hours(72);
        y.hours(19);
        row(y, 59, 0, 3 * 1, 0, 0, 3);
        due.is("sixty at most", y.count(11), 60);
        due.is("none further", y.log(60, 0), NONE);
        due.is("of one monk", y.led(0, false), 30);
    }

    private static void row(SeasonWalks x, int ago, int... want) {
        for (int what = 0; what < want.length; what++) {
            due.is("log(" + ago + ", " + what + ")", x.log(ago, what), want[what]);
        }
    }

    private static void p57Seed() {
        SeasonWalks x = new SeasonWalks();
        due.is("seed", x.seed(Integer.MIN_VALUE), 1);
        due.is("seed then", x.seed(-7), Integer.MIN_VALUE);
        due.is("no act", x.count(12), 0);
        x.hours(1);
        due.is("drawn", x.seed(0), 1103515245 * -7 + 12345);
    }

    private static void p58Undo() {
        SeasonWalks x = Tapes.told("monk at 15 stall 0 pace 3;monk at 3 stall 1 pace 0;fickle 70;hour 21;day 3");
        x.hours(2);
        int[] before = all(x);
        x.hours(72);
        x.seed(5);
        Tapes.text(x, "keep x");
        due.noNumber("a wrong law", x::law);
        x.image();
        due.is("undone", x.undo(), true);
        same(x, before);
        due.is("fault stays", x.fault(), 5);
        due.is("the image stays", x.back() && x.count(4) == 6, true);
        due.is("none behind going back", x.undo(), false);
        for (int flag = 0; flag < 14; flag++) {
            x.bell(flag);
        }
        due.is("twelve", x.count(12), 12);
        due.is("one less", x.undo() && x.count(12) == 11, true);
        x.bell(15);
        for (int flag = 12; flag >= 2; flag--) {
            due.is("undone", x.undo(), true);
            due.is("bell", x.count(5), flag);
        }
        due.is("the last", x.undo(), true);
        due.is("first bell", x.count(5), 1);
        due.is("no more", x.undo(), false);
        due.is("stays", x.count(5), 1);
        x.bell(9);
        Tapes.cloister(x, "");
        due.is("none behind a text", x.undo(), false);
        due.outOfBounds("no act", () -> x.bell(16));
        due.is("none of a wrong call", x.count(12), 0);
        x.mood(2);
        x.fill(1, 5);
        x.pace(0, 4);
        x.change(0, 1);
        x.cross(0);
        x.find(0);
        x.hours(1);
        due.is("seven acts", x.count(12), 7);
        Tapes.law(x, "keep");
        due.is("none behind a law", x.count(12), 0);
    }

    private static int[] all(SeasonWalks x) {
        int[] rows = new int[400];
        int at = 0;
        for (int what = 0; what < 13; what++) {
            rows[at++] = x.count(what);
        }
        for (int m = 0; m < x.count(0); m++) {
            for (int what = 0; what < 10; what++) {
                rows[at++] = x.monk(m, what);
            }
        }
        for (int walk = 0; walk < 4; walk++) {
            rows[at++] = x.store(walk);
        }
        int seed = x.seed(0);
        x.seed(seed);
        rows[at++] = seed;
        for (int ago = 0; ago < x.count(11); ago++) {
            for (int what = 0; what < 5; what++) {
                rows[at++] = x.log(ago, what);
            }
        }
        return rows;
    }

    private static void same(SeasonWalks x, int[] before) {
        int[] then = all(x);
        for (int i = 0; i < then.length; i++) {
            due.is("as ahead of it, " + i, then[i], before[i]);
        }
    }

    private static void p59Image() {
        SeasonWalks x = Tapes.told("monk at 15 stall 0 pace 3;fickle 70");
        Tapes.law(x, "haste 1");
        x.hours(9);
        x.image();
        int[] before = all(x);
        due.is("acts stay", x.count(12), 1);
        before[12] = 0;
        x.hours(70);
        Tapes.law(x, "keep;keep");
        Tapes.cloister(x, "monk at 0 stall 1");
        x.back();
        same(x, before);
        x.bell(4);
        x.image();
        x.bell(5);
        x.back();
        due.is("the newer one", x.count(5), 4);
    }

    private static void p60Back() {
        SeasonWalks x = Tapes.told("monk at 15 stall 0 pace 3");
        x.bell(3);
        due.is("no image", x.back(), false);
        due.is("nothing happens", x.count(12), 1);
        x.image();
        x.bell(4);
        x.feed(0x02000000, 0, 0, 0, 0);
        due.is("back", x.back(), true);
        due.is("bell", x.count(5), 3);
        due.is("no acts", x.count(12), 0);
        due.is("the tape stays", x.end(1), true);
        due.is("the tape stays as it was", x.road(0, true), 2);
        x.bell(5);
        due.is("back again", x.back() && x.count(5) == 3, true);
        SeasonWalks y = new SeasonWalks();
        y.image();
        Tapes.law(y, "keep");
        y.back();
        due.is("no law then", y.count(2), NONE);
    }

    private static void p61Count() {
        SeasonWalks x = Tapes.told(THREE + ";fickle 3;grass 11;hour 23;day 5;bell 6;mood autumn;store winter 100");
        Tapes.law(x, "slow 1;slow 1;keep if hungry");
        x.hours(2);
        int[] want = {3, 1, 3, 1, 6, 6, x.count(6), 3, 11, 154, 3, 4, 1};
        for (int what = 0; what < want.length; what++) {
            due.is("count(" + what + ")", x.count(what), want[what]);
        }
        due.is("count(13)", x.count(13), NONE);
        due.is("count(-1)", x.count(-1), NONE);
    }
}

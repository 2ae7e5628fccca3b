/**
 * Each sentence of the document that names a boundary, with runs on both sides of it; Script says how a run is
 * written. What is refused there is in RefusalTests, too, with the order of refusals and that they change nothing.
 */
public final class BoundaryTests {
    private static final String DIGITS = "0123456789";
    private static int cases = 0;

    public static void main(String[] args) {
        lettersOfAKitchen();
        numbersOfAKitchen();
        useOfAnObject();
        kinds();
        dueAndKept();
        windingsAndHands();
        planFor();
        planByHands();
        planFirst();
        sure();
        best();
        together();
        told();
        woundWhat();
        evenings();
        draws();
        imageKeeps();
        imageDoesNotKeep();
        page();
        faultAndKitchen();
        anotherKitchen();
        aboutAndAs();
        boilWindTake();
        planAgain();
        limitsOfNumbers();
        imageAndRestore();
        count();
        digest();
        System.out.println(cases + " cases by the sentences of the document");
        Asked.end();
    }

    private static void holds(String sentence, String... runs) {
        cases++;
        for (String run : runs) {
            Script.run(sentence, run);
        }
    }

    // ---- What it is

    /** Behind these letters just the allowed ones may stand, of all that can be written. */
    private static void next(String ahead, String allowed) {
        for (char code = 32; code <= 126; code++) {
            int place = ahead.length() + (allowed.indexOf(code) >= 0 ? 1 : 0);
            String run = "<" + ahead + "> letter(" + (int) code + ") fault()=" + place;
            Script.run("A KITCHEN is a text, behind " + ahead, run);
        }
    }

    private static void lettersOfAKitchen() {
        holds("two to four POTS",
            "<p01> fault()=3 kitchen()=STATE", "<p01;> fault()=3 kitchen()=STATE",
            "<p01;601> fault()=3 kitchen()=STATE", "<p01,p02;601> fault()=11 kitchen()=2 about(1,1)=2",
            "<p01,p02,p03;601> fault()=15 kitchen()=3 about(2,1)=3",
            "<p01,p02,p03,p04;601> fault()=19 kitchen()=4 about(3,1)=4",
            "<p01,p02,p03,p04,> fault()=15 kitchen()=STATE", "<p01,p02,p03,p04,p05;6> fault()=15 kitchen()=STATE");
        for (String ahead : new String[] {"", "p01,", "p01,e40,", "p01,e40,r18,"}) {
            cases++;
            next(ahead, "persb");
            for (char kind : "persb".toCharArray()) {
                next(ahead + kind, "01234");
            }
            next(ahead + "s0", "123456789");
            next(ahead + "s1", DIGITS);
            next(ahead + "s2", DIGITS);
            next(ahead + "s3", DIGITS);
            next(ahead + "s4", "0");
        }
        next("p01", ",");
        next("p01,e40", ",;");
        next("p01,e40,r18", ",;");
        next("p01,e40,r18,b12", ";");
        for (String ahead : new String[] {"p01,e40;", "p01,e40,r18;", "p01,e40,r18,b12;"}) {
            cases++;
            next(ahead, "0123456");
            next(ahead + "0", "123456789");
            for (int tens = 1; tens <= 5; tens++) {
                next(ahead + tens, DIGITS);
            }
            next(ahead + "6", "0");
            next(ahead + "01", "1234");
            next(ahead + "60", "1234");
            next(ahead + "011", "");
            next(ahead + "604", "");
        }
    }

    private static String two(int number) {
        return (number < 10 ? "0" : "") + number;
    }

    private static void numbersOfAKitchen() {
        cases += 3;
        for (int n = 0; n <= 99; n++) {
            String answer = n >= 1 && n <= 40 ? "kitchen()=4 about(0,1)=" + n : "kitchen()=STATE about(0,1)=UNKNOWN";
            Script.run("the MINUTES it WANTS (01 to 40)", "<s" + two(n) + ",p01,p01,p01;601> " + answer);
            answer = n >= 1 && n <= 40 ? "kitchen()=4 about(3,1)=" + n : "kitchen()=STATE about(3,1)=UNKNOWN";
            Script.run("the MINUTES it WANTS (01 to 40)", "<p01,p01,p01,s" + two(n) + ";601> " + answer);
            answer = n >= 1 && n <= 60 ? "kitchen()=2 count(1)=" + n : "kitchen()=STATE count(1)=0";
            Script.run("two digits SPRING (01 to 60)", "<p01,p01;" + two(n) + "1> " + answer);
        }
        for (int n = 0; n <= 9; n++) {
            String answer = n >= 1 && n <= 4 ? "kitchen()=2 count(2)=" + n : "kitchen()=STATE count(2)=0";
            Script.run("a digit HANDS (1 to 4)", "<p01,p01;60" + n + "> " + answer);
        }
        holds("POTS (numbered from 0)",
            "[p01,e02;601] about(-1,1)=UNKNOWN about(0,1)=1 about(1,1)=2 about(2,1)=UNKNOWN",
            "[p01,e02,r03;601] about(2,1)=3 about(3,1)=UNKNOWN",
            "[p01,e02,r03,s04;601] about(3,1)=4 about(4,1)=UNKNOWN "
                + "about(2147483647,1)=UNKNOWN about(-2147483648,1)=UNKNOWN");
    }

    private static void useOfAnObject() {
        // A kitchen of two pots takes 12 calls: 11 letters and the reading.
        holds("An object is used for at most 512 calls",
            "[e09,r18;251] 498*about(0,1)=9 boil(0)=9 about(0,5)=91",
            "42*kitchen()=STATE " + "[p01,e02;601] ".repeat(39) + "count(9)=39 count(3)=0",
            "511*blank()=0 count(8)=0");
    }

    // ---- Terms

    private static void kinds() {
        holds("KINDS are told by the letter",
            "[p09,e09,r09,s09;251] about(0,0)=0 about(1,0)=1 about(2,0)=2 about(3,0)=3",
            "[b09,p09;251] about(0,0)=4 about(1,0)=0");
        holds("All are POTS",
            "[p09,e09,r09,s09;251] as(0,0)=0 as(1,0)=1 as(2,0)=2 as(3,0)=3", "[p09,b09;251] as(1,0)=1");
        holds("BEANS are RICE, too",
            "[b09,r09;251] as(0,2)=0 as(0,4)=0 as(1,2)=1 as(1,4)=NONE as(0,1)=NONE as(0,3)=NONE",
            "[p09,e09,r09,s09;251] as(0,2)=NONE as(1,2)=NONE as(3,2)=NONE as(0,4)=NONE as(1,4)=NONE as(3,4)=NONE");
        holds("a KIND is no other (the cast fails)",
            "[p09,e09,r09,s09;251] as(0,1)=NONE as(0,3)=NONE as(1,1)=1 as(1,3)=NONE "
                + "as(2,1)=NONE as(2,3)=NONE as(3,1)=NONE as(3,3)=3");
        holds("At first there is none",
            "count(0)=0 count(1)=0 count(2)=0 count(3)=0 count(4)=0 count(5)=0 about(0,0)=UNKNOWN image()=STATE");
        holds("then it is MINUTE 0, no POT BOILS, all HANDS are FREE",
            "[p01,e02;011] count(3)=0 count(4)=0 count(5)=1 about(0,3)=NONE about(1,3)=NONE",
            "[p01,e02,r03,s04;604] count(3)=0 count(4)=0 count(5)=4 about(2,3)=NONE about(3,3)=NONE");
    }

    private static void dueAndKept() {
        holds("DUE as many MINUTES later as it WANTS",
            "[p01,s40;602] boil(0)=1 boil(1)=40 about(0,4)=1 about(1,4)=40",
            "[p01,s40;602] wind(7) boil(0)=8 boil(1)=47 wind(3) about(0,3)=7 about(0,4)=8 about(1,4)=47");
        holds("a POT KEEPS 0 MINUTES",
            "[p05,p05,p05;604] about(0,2)=0 boil(0) boil(1) boil(2) wind(4) about(0,5)=99 take(0)=99 wind(1) "
                + "about(1,5)=100 take(1)=100 wind(1) about(2,5)=101 take(2)=101");
        kept("EGGS 1", 'e', 1);
        kept("RICE 3", 'r', 3);
        kept("STEW 9", 's', 9);
        kept("BEANS twice as long as RICE", 'b', 6);
        holds("RAW by so many MINUTES as it would be DUE later",
            "[p01,s40;602] boil(0) boil(1) about(0,5)=99 about(1,5)=60 take(0)=99 take(1)=60 about(1,7)=60");
        holds("RUINED by so many MINUTES as it is later than that",
            "[p01,s01;602] boil(0) boil(1) 16*wind(60) wind(39)=999 about(0,5)=1098 take(0)=1098 take(1)=1089 "
                + "about(0,7)=1098 about(1,7)=1089");
        holds("It does not BOIL then, but may anew",
            "[p05,e05;602] boil(0)=5 wind(5) take(0)=100 about(0,3)=NONE about(0,4)=NONE about(0,5)=NONE take(0)=STATE "
                + "boil(0)=10 about(0,3)=5 about(0,5)=95 boil(0)=STATE take(0)=95 about(0,6)=2 about(0,7)=95");
    }

    /** Of four like pots one is taken a minute too early, one as it is due, one as it keeps last, one later. */
    private static void kept(String sentence, char kind, int keeps) {
        String pot = kind + "05";
        String four = pot + "," + pot + "," + pot + "," + pot;
        holds(sentence, "[" + four + ";604] about(0,2)=" + keeps + " boil(0) boil(1) boil(2) boil(3) "
            + "wind(4) about(0,5)=99 take(0)=99 wind(1) about(1,5)=100 take(1)=100 "
            + "wind(" + keeps + ") about(2,5)=100 take(2)=100 wind(1) about(3,5)=101 take(3)=101 "
            + "about(0,7)=99 about(1,7)=100 about(2,7)=100 about(3,7)=101");
    }

    private static void windingsAndHands() {
        holds("WOUND to so many MINUTES (1 to SPRING)",
            "[p01,e02;601] wind(-1)=OUTSIDE wind(0)=OUTSIDE wind(1)=1 wind(60)=61 wind(61)=OUTSIDE count(3)=61",
            "[p01,e02;251] wind(25)=25 wind(26)=OUTSIDE wind(24)=49",
            "[p01,e02;011] wind(0)=OUTSIDE wind(1)=1 wind(2)=OUTSIDE");
        holds("it is that MINUTE then, and all HANDS are FREE",
            "[p01,p01,p01,p01;604] boil(0) boil(1) boil(2) boil(3) take(0) take(1) take(2) take(3) count(5)=0 "
                + "wind(7)=7 count(3)=7 count(5)=4",
            "[p01,p01;601] boil(0) take(0) count(5)=0 wind(1) count(5)=1 wind(1) count(5)=1");
        String boil = " boil(0) boil(1) boil(2) boil(3) ";
        holds("To take a POT needs one that is FREE, until the timer RINGS next",
            "[p05,p05,p05,p05;601]" + boil + "take(0)=95 take(1)=STATE wind(1) take(1)=96 take(2)=STATE wind(1) "
                + "take(2)=97",
            "[p05,p05,p05,p05;602]" + boil + "take(0)=95 count(5)=1 take(1)=95 take(2)=STATE wind(1) take(2)=96 "
                + "take(3)=96",
            "[p05,p05,p05,p05;603]" + boil + "take(0)=95 take(1)=95 count(5)=1 take(2)=95 take(3)=STATE wind(1) "
                + "take(3)=96",
            "[p05,p05,p05,p05;604]" + boil + "take(0)=95 take(1)=95 take(2)=95 take(3)=95 count(5)=0 boil(3)=5 "
                + "take(3)=STATE wind(1) take(3)=96");
    }

    private static void planFor() {
        holds("PLAN (for all that BOIL now)",
            "[p05,p05;601] plan(0)=0 plan(1)=NONE boil(0) plan(0)=1 plan(1)=5 boil(1) plan(0)=NONE take(1) plan(0)=1 "
                + "plan(1)=5",
            "[p05,p07;601] boil(1) plan(0)=1 plan(1)=7 boil(0) plan(0)=2 plan(1)=5");
        holds("all of these can come out GOOD: TAKEN now",
            "[p05,p05;602] boil(0) boil(1) wind(4) plan(0)=1 plan(1)=1 wind(1) plan(0)=0 plan(1)=NONE "
                + "wind(1) plan(0)=NONE plan(1)=NONE",
            "[r05,p40;602] boil(0) wind(8) plan(0)=0 plan(1)=NONE wind(1) plan(0)=NONE plan(1)=NONE",
            "[s01,p40;602] boil(0) wind(10) plan(0)=0 wind(1) plan(0)=NONE");
        holds("or at a RING",
            "[s10,e19;602] boil(0) boil(1) plan(0)=1 plan(1)=19", "[s10,e20;602] boil(0) boil(1) plan(0)=2 plan(1)=10",
            "[b10,p16;602] boil(0) boil(1) plan(0)=1 plan(1)=16", "[b10,p17;602] boil(0) boil(1) plan(0)=2 plan(1)=10",
            "[r10,p13;602] boil(0) boil(1) plan(0)=1 plan(1)=13", "[r10,p14;602] boil(0) boil(1) plan(0)=2 plan(1)=10",
            "[e10,p11;602] boil(0) boil(1) plan(0)=1 plan(1)=11", "[e10,p12;602] boil(0) boil(1) plan(0)=2 plan(1)=10",
            "[p10,p10;602] boil(0) boil(1) plan(0)=1 plan(1)=10", "[p10,p11;602] boil(0) boil(1) plan(0)=2 plan(1)=10");
        // The farthest a pot can be good is 49 minutes from now (40 wanted, 9 kept), so the 120 are never reached:
        // what can be asked is that the farthest plan there is stands.
        holds("no MINUTE more than 120 from now",
            "[p40,e40,r40,s40;011] boil(0) boil(1) boil(2) boil(3) plan(0)=43 plan(1)=1",
            "[s40,s40,s40,s40;602] boil(0) boil(1) boil(2) boil(3) plan(0)=2 plan(1)=40 wind(49) plan(0)=NONE");
        holds("which MINUTE it is does not bound a PLAN",
            "[p40,e40;601] 16*wind(60) wind(39)=999 boil(0) boil(1) plan(0)=2 plan(1)=40");
    }

    private static void planByHands() {
        String boil = " boil(0) boil(1) boil(2) boil(3) ";
        holds("by HANDS that are FREE then",
            "[p05,p05;601] boil(0) boil(1) plan(0)=NONE plan(1)=NONE",
            "[p05,p05;602] boil(0) boil(1) plan(0)=1 plan(1)=5",
            "[p05,e05;601] boil(0) boil(1) plan(0)=2 plan(1)=5",
            "[e05,e05,e05;601] boil(0) boil(1) boil(2) plan(0)=NONE",
            "[e05,e05,e05;602] boil(0) boil(1) boil(2) plan(0)=2 plan(1)=5",
            "[p05,p05,p05,p05;603]" + boil + "plan(0)=NONE", "[p05,p05,p05,p05;604]" + boil + "plan(0)=1 plan(1)=5",
            "[r05,r05,r05,r05;601]" + boil + "plan(0)=4 plan(1)=5",
            "[r05,r05,r05,r05;602]" + boil + "plan(0)=2 plan(1)=5",
            "[r05,r05,r05,r05;603]" + boil + "plan(0)=2 plan(1)=5",
            "[r05,r05,r05,r05;604]" + boil + "plan(0)=1 plan(1)=5");
        holds("now, by HANDS that are FREE now",
            "[p05,e05;601] boil(0) boil(1) wind(5) plan(0)=1 plan(1)=1 take(0)=100 plan(0)=1 plan(1)=1 wind(1) "
                + "plan(0)=0",
            "[p05,e05;601] boil(0) boil(1) wind(5) take(1)=100 plan(0)=NONE plan(1)=NONE",
            "[p05,e05,p40;602] boil(0) boil(1) wind(5) plan(0)=0 boil(2) take(2)=60 plan(0)=1 plan(1)=1 boil(2) "
                + "take(2)=60 plan(0)=NONE",
            "[s05,s05,s05;601] boil(0) boil(1) boil(2) wind(5) plan(0)=2 plan(1)=1 take(0) plan(0)=2 plan(1)=1");
    }

    private static void planFirst() {
        holds("WOUND first, 1 to SPRING",
            "[p40,e40;404] boil(0) plan(0)=1 plan(1)=40", "[p40,e40;394] boil(0) plan(0)=2 plan(1)=1",
            "[p40,e40;204] boil(0) plan(0)=2 plan(1)=20", "[p40,e40;194] boil(0) plan(0)=3 plan(1)=2",
            "[p40,e40;604] boil(0) plan(0)=1 plan(1)=40", "[e40,p40;394] boil(0) plan(0)=2 plan(1)=1",
            "[p02,p40;014] boil(0) plan(0)=2 plan(1)=1", "[p01,p40;014] boil(0) plan(0)=1 plan(1)=1");
        holds("the least by which it can be so few",
            "[s10,s40;302] boil(0) boil(1) plan(0)=2 plan(1)=10", "[s10,s40;292] boil(0) boil(1) plan(0)=2 plan(1)=11",
            "[s10,s40;212] boil(0) boil(1) plan(0)=2 plan(1)=19", "[s10,s40;202] boil(0) boil(1) plan(0)=3 plan(1)=10",
            "[s10,p19;602] boil(0) boil(1) plan(0)=1 plan(1)=19", "[s10,p18;602] boil(0) boil(1) plan(0)=1 plan(1)=18");
        holds("none: there is no such PLAN",
            "[e05,p40;602] boil(0) boil(1) wind(6) plan(0)=1 plan(1)=34 wind(1) plan(0)=NONE plan(1)=NONE take(0) "
                + "plan(0)=1");
    }

    private static void sure() {
        holds("SURE by so many of twenty: eighteen as WOUND, one a MINUTE sooner, one a MINUTE later",
            "[p05,e05;601] boil(0) sure(0,3)=0 sure(0,4)=1 sure(0,5)=18 sure(0,6)=1 sure(0,7)=0 sure(0,60)=0",
            "[p05,e05;601] boil(1) sure(1,3)=0 sure(1,4)=1 sure(1,5)=19 sure(1,6)=19 sure(1,7)=1 sure(1,8)=0",
            "[r05,s05;601] boil(0) sure(0,3)=0 sure(0,4)=1 sure(0,5)=19 sure(0,6)=20 sure(0,7)=20 sure(0,8)=19 "
                + "sure(0,9)=1 sure(0,10)=0",
            "[r05,s05;601] boil(1) sure(1,3)=0 sure(1,4)=1 sure(1,5)=19 sure(1,6)=20 sure(1,13)=20 sure(1,14)=19 "
                + "sure(1,15)=1 sure(1,16)=0",
            "[b05,p05;601] boil(0) sure(0,3)=0 sure(0,4)=1 sure(0,5)=19 sure(0,6)=20 sure(0,10)=20 sure(0,11)=19 "
                + "sure(0,12)=1 sure(0,13)=0");
        holds("once a MINUTE sooner, even now",
            "[p05,e05;601] boil(0) wind(4) sure(0,1)=18 wind(1) sure(0,1)=1 wind(1) sure(0,1)=0",
            "[s01,e05;601] boil(0) sure(0,1)=19 wind(1) sure(0,1)=20 wind(7) sure(0,1)=20 wind(1) sure(0,1)=19 wind(1) "
                + "sure(0,1)=1 wind(1) sure(0,1)=0");
        holds("once a MINUTE later, even behind SPRING and 999",
            "[p05,e06;041] boil(0) boil(1) sure(0,4)=1 sure(1,4)=0", "[r05,p40;051] boil(0) sure(0,5)=19",
            "[p01,r40;601] 16*wind(60) wind(39)=999 boil(0) boil(1) sure(0,1)=18 sure(1,39)=1 sure(1,41)=20");
    }

    private static void best() {
        holds("BEST: the WINDING that is SURE by most: of like ones the least",
            "[p05,e05,r05,s05;601] boil(0) boil(1) boil(2) boil(3) best(0)=5 best(1)=5 best(2)=6 best(3)=6",
            "[b05,p40;601] boil(0) boil(1) best(0)=6 best(1)=40",
            "[r05,s05;601] boil(0) boil(1) wind(4) best(0)=2 wind(1) best(0)=1 wind(2) best(0)=1 best(1)=1",
            "[r05,p40;601] boil(0) wind(8) best(0)=1 wind(1) best(0)=1 sure(0,1)=0");
        holds("BEST (1 to SPRING)",
            "[r05,p05;061] boil(0) best(0)=6", "[r05,p05;051] boil(0) best(0)=5", "[r05,p05;041] boil(0) best(0)=4",
            "[r05,p05;031] boil(0) best(0)=1", "[p02,p05;011] boil(0) best(0)=1 sure(0,1)=1",
            "[p01,e40;601] boil(0) best(0)=1", "[p40,e40;391] boil(0) best(0)=39", "[p40,e40;401] boil(0) best(0)=40");
    }

    private static void together() {
        holds("TOGETHER at a MINUTE: so that it is DUE just then",
            "[p01,s40;601] together(0,1)=0 together(1,40)=0 together(0,60)=59 together(1,60)=20 together(1,1200)=1160");
        holds("none: that one is over",
            "[p01,s40;601] together(0,0)=NONE together(0,1)=0 together(1,39)=NONE together(1,40)=0",
            "[p01,s40;601] wind(10) together(0,10)=NONE together(0,11)=10 together(1,49)=NONE together(1,50)=10",
            "[p01,s40;601] 16*wind(60) wind(39) together(0,999)=NONE together(0,1000)=999 together(1,1038)=NONE "
                + "together(1,1039)=999 together(1,1200)=1160");
        holds("as if it did not BOIL yet",
            "[p05,e09;601] boil(0) wind(3) together(0,7)=NONE together(0,8)=3 together(0,5)=NONE wind(9) "
                + "together(0,60)=55");
    }

    private static void told() {
        holds("TOLD (6 at most)",
            "[p05,e09;601] boil(0) tell(0,100)=1 tell(0,100)=2 tell(0,100)=3 tell(0,100)=4 tell(0,100)=5 tell(0,100)=6 "
                + "tell(0,100)=FULL count(7)=6 forget()=6 tell(0,100)=1",
            "[p05,e09;601] boil(0) 6*tell(0,100) image() forget() tell(0,99)=1 restore() tell(0,100)=FULL count(7)=6");
        holds("that one that BOILS came out",
            "[p05,e09;601] tell(0,100)=STATE boil(0) tell(0,100)=1 tell(1,100)=STATE take(0) tell(0,100)=STATE "
                + "count(7)=1");
        holds("forget: how much was",
            "forget()=0",
            "[p05,e09;601] forget()=0 boil(0) tell(0,100) forget()=1 forget()=0 6*tell(0,100) forget()=6 count(7)=0");
    }

    private static void woundWhat() {
        holds("to how many MINUTES (1 to SPRING) it can have been WOUND",
            "[p05,e09;041] boil(0) tell(0,100) wound(0)=0 wound(1)=NONE",
            "[p05,e09;051] boil(0) tell(0,100) wound(0)=1 wound(1)=5",
            "[p05,e09;601] boil(0) wind(4) tell(0,100) wound(0)=1 wound(1)=1",
            "[p05,e09;601] boil(0) wind(5) tell(0,100) wound(0)=0 wound(1)=NONE",
            "[s05,e09;061] boil(0) tell(0,100) wound(0)=2 wound(1)=5",
            "[s05,e09;601] boil(0) tell(0,100) wound(0)=10 wound(1)=5",
            "[s05,e09;601] boil(0) wind(9) tell(0,100) wound(0)=5 wound(1)=1");
        holds("RAW by so many MINUTES, GOOD, or RUINED by so many",
            "[r05,e09;601] boil(0) tell(0,99) wound(0)=1 wound(1)=4 forget() tell(0,96) wound(0)=1 wound(1)=1 forget() "
                + "tell(0,95) wound(0)=0 wound(1)=NONE",
            "[r05,e09;601] boil(0) tell(0,101) wound(0)=1 wound(1)=9 forget() tell(0,152) wound(0)=1 wound(1)=60 "
                + "forget() tell(0,153) wound(0)=0 wound(1)=NONE");
        holds("each time to as many, so that all TOLD is so",
            "[p05,s05;601] boil(0) boil(1) tell(1,100) wound(0)=10 wound(1)=5 tell(0,109) wound(0)=1 wound(1)=14",
            "[p05,s05;601] boil(0) boil(1) tell(1,100) tell(0,110) wound(0)=0 wound(1)=NONE",
            "[p05,s05;601] boil(0) boil(1) 5*tell(1,100) wound(0)=10 tell(0,100) wound(0)=1 wound(1)=5");
        holds("each by what was then",
            "[p05,s05;601] boil(0) tell(0,100) wound(1)=5 wind(2) wound(1)=5 tell(0,100) wound(0)=0 wound(1)=NONE",
            "[p05,s05;601] boil(0) tell(0,100) wind(2) take(0) wound(1)=5 boil(0) wound(1)=5 tell(0,100) wound(0)=1 "
                + "wound(1)=5");
        holds("nothing TOLD: all can be",
            "[p05,s05;011] wound(0)=1 wound(1)=1",
            "[p05,s05;601] wound(0)=60 wound(1)=1 boil(0) tell(0,100) forget() wound(0)=60");
    }

    // The draws below were worked out from the document's words, apart from the class.

    private static void evenings() {
        // By a spring of 1 it rings at each minute; seed 10 draws pot 0 six times, then pot 1.
        holds("one POT is TAKEN, if it was not yet",
            "[p01,p40;011] evenings(1,10,0)=1 evenings(1,10,1)=0 evenings(6,10,0)=1 evenings(6,10,1)=0");
        holds("how many are GOOD, how many RUINED",
            "[p01,p07;011] evenings(6,10,0)=1 evenings(7,10,0)=2 evenings(7,10,1)=0",
            "[p01,p06;011] evenings(7,10,0)=1 evenings(7,10,1)=1",
            "[p01,p08;011] evenings(7,10,0)=1 evenings(7,10,1)=0",
            "[p01,e06;011] evenings(7,10,0)=2 evenings(7,10,1)=0",
            "[p01,e05;011] evenings(7,10,0)=1 evenings(7,10,1)=1",
            "[p01,r04;011] evenings(7,10,0)=2 evenings(7,10,1)=0",
            "[p01,r03;011] evenings(7,10,0)=1 evenings(7,10,1)=1");
        // Seed 1599 draws pot 0 eleven times, then pot 1.
        holds("how many are GOOD, how many RUINED, of those that keep long",
            "[p02,s03;011] evenings(11,1599,0)=0 evenings(12,1599,0)=1 evenings(12,1599,1)=0",
            "[p02,s02;011] evenings(12,1599,0)=0 evenings(12,1599,1)=1",
            "[p02,b06;011] evenings(12,1599,0)=1 evenings(12,1599,1)=0",
            "[p02,b05;011] evenings(12,1599,0)=0 evenings(12,1599,1)=1");
        holds("all POTS BOIL from now on, as they would be",
            "[p01,p07;011] boil(1) wind(1) evenings(7,10,0)=2 evenings(7,10,1)=0 take(1)=94 evenings(7,10,0)=2 "
                + "about(0,3)=NONE about(1,6)=1 count(3)=1 count(5)=0 count(6)=1");
        holds("which MINUTE it is does not bound EVENINGS",
            "[p01,p30,p40,s40;601] 16*wind(60) wind(39)=999 evenings(5,0,0)=3 evenings(5,0,1)=1 count(3)=999");
    }

    private static void draws() {
        // Seed 0, by a spring of 60 and four pots: at 1 pot 0, at 30 pot 1, at 49 pot 3, at 75 pot 1, at 78 pot 2.
        holds("WOUND to 1 more than a DRAW of SPRING; by a DRAW of how many POTS there are",
            "[p01,p30,p40,s40;601] evenings(1,0,0)=1 evenings(2,0,0)=2 evenings(3,0,0)=3 evenings(4,0,0)=3 "
                + "evenings(4,0,1)=0 evenings(5,0,0)=3 evenings(5,0,1)=1",
            "[p01,p29,p40,s39;601] evenings(3,0,0)=1 evenings(3,0,1)=2",
            "[p02,p31,p40,s40;601] evenings(3,0,0)=1 evenings(3,0,1)=0",
            // Seed 29 winds it to the most, 40, and takes pot 1; seed 3 takes pot 3 at 28.
            "[p01,p40;401] evenings(1,29,0)=1 evenings(1,29,1)=0",
            "[p01,p39;401] evenings(1,29,0)=0 evenings(1,29,1)=1",
            "[p01,p01,p01,p28;401] evenings(1,3,0)=1 evenings(1,3,1)=0");
        holds("the next SEED each time, its rest by 2 to the 31",
            "[p01,p40;601] evenings(1,0,2)=1406932606 evenings(1,1,2)=377401575 evenings(1,2147483646,2)=1318511020 "
                + "evenings(1,2147483647,2)=288979989",
            "[p01,e02,r03,s04;601] evenings(2,0,2)=1449466924 evenings(4,2147483647,2)=2101342199 "
                + "evenings(30,2147483647,2)=516211811 evenings(30,0,2)=321843028");
        // The most as seed: at 30 pot 1, at 53 and 67 pot 2, at 88 pot 3.
        holds("DRAWS by the most as SEED",
            "[p40,p30,b40,s40;601] evenings(1,2147483647,0)=1 evenings(1,2147483647,1)=0 evenings(2,2147483647,1)=1 "
                + "evenings(3,2147483647,1)=1 evenings(4,2147483647,0)=1 evenings(4,2147483647,1)=2");
    }

    private static void imageKeeps() {
        holds("An IMAGE keeps the MINUTE",
            "[p05,e09;601] image()=0 wind(9) restore()=0 count(3)=0",
            "[p05,e09;601] wind(9) image()=9 wind(1) restore()=9 count(3)=9");
        holds("since when each BOILS",
            "[p05,e09;602] wind(3) boil(0) image() wind(2) take(0) boil(1) restore() about(0,3)=3 about(1,3)=NONE "
                + "count(4)=1",
            "[p05,e09;602] boil(0) image() take(0) wind(3) boil(0) restore() about(0,3)=0 about(0,4)=5");
        holds("how often it was TAKEN",
            "[p05,e09;602] boil(0) image() take(0) restore() about(0,6)=0",
            "[p05,e09;602] boil(0) take(0) boil(0) image() take(0) about(0,6)=2 restore() about(0,6)=1 take(0) "
                + "about(0,6)=2");
        holds("how it came out last",
            "[p05,e09;602] boil(0) image() take(0) restore() about(0,7)=NONE",
            "[p05,e09;602] boil(0) take(0)=95 boil(0) image() wind(5) take(0)=100 restore() about(0,7)=95");
        holds("how many HANDS are FREE",
            "[p05,e09;601] boil(0) image() take(0) count(5)=0 restore() count(5)=1 take(0)=95",
            "[p05,e09;601] boil(0) boil(1) take(0) image() wind(1) count(5)=1 restore() count(5)=0 take(1)=STATE");
        holds("WINDINGS",
            "[p05,e09;601] image() wind(1) restore() count(6)=0 wind(1) wind(1) image() wind(1) restore() count(6)=2");
        holds("what is TOLD",
            "[p05,e09;601] boil(0) image() tell(0,100) restore() count(7)=0 wound(0)=60 wound(1)=1",
            "[p05,e09;601] boil(0) tell(0,100) image() tell(0,99) wound(0)=0 restore() count(7)=1 wound(0)=1 "
                + "wound(1)=5",
            "[p05,e09;601] boil(0) tell(0,100) image() forget() tell(0,99) wound(1)=4 restore() wound(0)=1 wound(1)=5",
            "[p05,e09;601] boil(0) tell(0,100) image() forget() restore() count(7)=1 wound(1)=5 forget() tell(0,99) "
                + "restore() wound(1)=5",
            "[p05,s05;601] boil(0) boil(1) tell(0,100) image() forget() tell(1,100) wound(0)=10 restore() wound(0)=1 "
                + "wound(1)=5",
            "[p05,e09;601] boil(0) tell(0,100) image() forget() wind(3) tell(0,100) wound(1)=2 restore() wound(1)=5");
    }

    private static void imageDoesNotKeep() {
        holds("An IMAGE keeps no more: not THE PAGE, nor how often plan() was done or a KITCHEN read",
            "[p05,e09;601] <p> image() <01> restore() count(8)=3 fault()=3 blank()=3 restore() count(8)=0",
            "[p05,e09;601] image() plan(0) plan(1) restore() count(10)=2 count(9)=1",
            "[p05,e09;601] image() 20*plan(0)=0 restore() plan(0)=STATE");
        holds("in the IMAGE nothing changes behind it",
            "[p05,e09;602] boil(0) image() wind(5) take(0) boil(1) tell(1,100) restore()=0 wind(7) take(0) "
                + "restore()=0 about(0,3)=0 "
                + "about(0,6)=0 about(0,7)=NONE about(1,3)=NONE count(5)=2 count(6)=0 count(7)=0");
    }

    // ---- Promises 1 to 22

    private static void page() {
        holds("Promise 1: No KITCHEN",
            "count(0)=0 about(0,0)=UNKNOWN as(0,0)=UNKNOWN boil(0)=UNKNOWN take(0)=UNKNOWN sure(0,1)=UNKNOWN "
                + "best(0)=UNKNOWN "
                + "together(0,0)=UNKNOWN tell(0,100)=UNKNOWN wind(1)=STATE plan(0)=STATE wound(0)=STATE "
                + "evenings(1,0,0)=STATE "
                + "image()=STATE restore()=STATE kitchen()=STATE count(8)=0 count(9)=0 count(10)=0 fault()=0 "
                + "blank()=0 forget()=0");
        holds("Promise 2: code (32 to 126)",
            "letter(31)=OUTSIDE letter(32)=1 letter(126)=2 letter(127)=OUTSIDE letter(-1)=OUTSIDE letter(0)=OUTSIDE "
                + "count(8)=2",
            "letter(2147483647)=OUTSIDE letter(-2147483648)=OUTSIDE letter(368)=OUTSIDE count(8)=0");
        holds("Promise 2: FULL: above 21",
            "20*letter(112) letter(112)=21 letter(112)=FULL count(8)=21 blank()=21 letter(112)=1");
        holds("Promise 3: THE PAGE is empty: how many letters it had",
            "blank()=0 letter(112)=1 blank()=1 blank()=0 count(8)=0 fault()=0", "21*letter(112) blank()=21 count(8)=0",
            "<x> blank() [p01,e02;601]");
    }

    private static void faultAndKitchen() {
        holds("Promise 4: the place of the first letter, from 0",
            "<x> fault()=0", "<px> fault()=1", "<xp01> fault()=0", "<p0x,x> fault()=2",
            "<p01,e02;601p> fault()=11", "<p01,e02,r03,s04;601p> fault()=19",
            "<p01,e02,r03,s04;601pp> fault()=19 count(8)=21");
        holds("Promise 4: how many letters it has, if there is none",
            "fault()=0", "<p> fault()=1", "<p01,e02;60> fault()=10", "<p01,e02;601> fault()=11",
            "<p01,e02,r03,s04;601> fault()=19");
        holds("Promise 5: STATE: it is none",
            "kitchen()=STATE", "<p> kitchen()=STATE", "<p01,e02> kitchen()=STATE", "<p01,e02;> kitchen()=STATE",
            "<p01,e02;6> kitchen()=STATE", "<p01,e02;60> kitchen()=STATE", "<p01,e02;601> kitchen()=2",
            "<p01,e02;6011> kitchen()=STATE count(8)=12", "<p01,e02,;601> kitchen()=STATE",
            "<p01,e02,r03,s04> kitchen()=STATE",
            "<p01,e02,r03,s04;60> kitchen()=STATE", "<p01,e02,r03,s04;601> kitchen()=4",
            "<p01,e02,r03,s04;6011> kitchen()=STATE count(8)=20", "<x01,e02;601> kitchen()=STATE",
            "<p01,e02;605> kitchen()=STATE");
        holds("Promise 5: how many POTS; THE PAGE is empty then",
            "<p01,e02;601> kitchen()=2 count(8)=0 kitchen()=STATE count(0)=2",
            "[p01,e02,r03;601] count(8)=0 count(0)=3",
            "<p01,e02;60> kitchen()=STATE count(8)=10 letter(49)=11 kitchen()=2");
    }

    private static void anotherKitchen() {
        String same = " [p05,e09;601] ";
        holds("Promise 5: another one is gone, with all that was",
            same + "wind(9)" + same + "count(3)=0 count(6)=0", same + "boil(0)" + same + "about(0,3)=NONE count(4)=0",
            same + "boil(0) take(0)" + same + "about(0,6)=0 about(0,7)=NONE count(5)=1",
            same + "boil(0) tell(0,100)" + same + "count(7)=0 wound(0)=60 forget()=0",
            same + "image()" + same + "restore()=STATE",
            "[p01,e02,r03,s04;604] [b40,s39;011] count(0)=2 count(1)=1 count(2)=1 count(5)=1 about(0,0)=4 "
                + "about(1,1)=39 about(2,0)=UNKNOWN about(3,0)=UNKNOWN",
            "[b40,s39;011] [p01,e02,r03,s04;604] count(0)=4 count(1)=60 count(2)=4 count(5)=4 about(3,0)=3 "
                + "wind(60)=60");
        holds("Promise 5: what is no KITCHEN leaves THE KITCHEN",
            same + "boil(0) wind(3) image() <p01> kitchen()=STATE count(0)=2 about(0,3)=0 count(3)=3 restore()=3 "
                + "count(9)=1");
        holds("Promise 21: how often a KITCHEN was read",
            "count(9)=0 kitchen()=STATE count(9)=0" + same + "count(9)=1" + same + "count(9)=2");
    }

    private static void aboutAndAs() {
        holds("Promise 6: what = 0 to 7",
            "[r05,p40;601] about(0,-1)=OUTSIDE about(0,0)=2 about(0,7)=NONE about(0,8)=OUTSIDE "
                + "about(1,2147483647)=OUTSIDE about(1,-2147483648)=OUTSIDE");
        holds("Promise 6: NONE: it does not BOIL",
            "[r05,p40;601] about(0,3)=NONE about(0,4)=NONE about(0,5)=NONE boil(0) about(0,3)=0 about(0,4)=5 "
                + "about(0,5)=95 take(0) about(0,3)=NONE about(0,4)=NONE about(0,5)=NONE");
        holds("Promise 6: how often it was TAKEN, how it came OUT last (NONE)",
            "[r05,p40;601] about(0,6)=0 about(0,7)=NONE boil(0) about(0,7)=NONE take(0) about(0,6)=1 about(0,7)=95 "
                + "boil(0) about(0,6)=1 about(0,7)=95 about(1,6)=0 about(1,7)=NONE");
        holds("Promise 7: a KIND, 0 to 4",
            "[b05,r40;601] as(0,-1)=OUTSIDE as(0,0)=0 as(0,4)=0 as(0,5)=OUTSIDE as(1,2147483647)=OUTSIDE "
                + "as(1,-2147483648)=OUTSIDE");
        holds("Promise 7: its number; NONE",
            "[r05,b40,e01,p01;601] as(0,2)=0 as(1,2)=1 as(1,4)=1 as(2,1)=2 as(3,0)=3 as(3,1)=NONE");
    }

    private static void boilWindTake() {
        holds("Promise 8: STATE: it BOILS already",
            "[r05,p40;601] boil(0)=5 boil(0)=STATE wind(20) boil(0)=STATE about(0,3)=0 take(0)=112 boil(0)=25 "
                + "boil(0)=STATE boil(1)=60");
        holds("Promise 9: or it would be above 999",
            "[r05,p40;601] 16*wind(60) count(3)=960 wind(40)=STATE wind(39)=999 wind(1)=STATE count(3)=999 count(6)=17",
            "[r05,p40;371] 26*wind(37) count(3)=962 wind(37)=999 wind(37)=STATE",
            "[r05,p40;601] 16*wind(60) wind(38)=998 wind(2)=STATE wind(1)=999");
        holds("Promise 10: STATE: it does not BOIL",
            "[r05,p40;604] take(0)=STATE boil(0) take(1)=STATE take(0)=95 take(0)=STATE count(5)=3");
        holds("Promise 10: or no HAND is FREE",
            "[r05,p40;601] boil(0) boil(1) take(0)=95 take(1)=STATE wind(1) take(1)=61 count(5)=0");
    }

    private static void planAgain() {
        holds("Promise 11: what = 0, 1",
            "[r05,p40;601] boil(0) plan(-1)=OUTSIDE plan(0)=1 plan(1)=5 plan(2)=OUTSIDE count(10)=2");
        holds("Promise 11: NONE: none is needed",
            "[r05,p40;601] boil(0) wind(4) plan(0)=1 plan(1)=1 wind(1) plan(0)=0 plan(1)=NONE");
        holds("Promise 11: or plan() was done 20 times",
            "[r05,p40;601] boil(0) 19*plan(0)=1 plan(1)=5 plan(0)=STATE plan(1)=STATE count(10)=20",
            "plan(0)=STATE [r05,p40;601] 5*plan(2)=OUTSIDE boil(0) wind(9) 20*plan(0)=NONE count(10)=20 plan(0)=STATE "
                + "count(10)=20",
            "[r05,p40;601] 10*plan(0)=0 [r05,p40;601] 10*plan(0)=0 plan(0)=STATE count(10)=20");
    }

    private static void limitsOfNumbers() {
        holds("Promise 12: minutes (1 to SPRING)",
            "[r05,p40;251] boil(0) sure(0,0)=OUTSIDE sure(0,1)=0 sure(0,25)=0 sure(0,26)=OUTSIDE sure(0,-1)=OUTSIDE",
            "[r05,p40;011] boil(0) sure(0,1)=0 sure(0,2)=OUTSIDE",
            "[r05,p40;601] boil(0) sure(0,60)=0 sure(0,61)=OUTSIDE");
        holds("Promise 12, 13: STATE: it does not BOIL",
            "[r05,p40;251] sure(0,5)=STATE best(0)=STATE boil(0) sure(0,5)=19 best(0)=6 sure(1,5)=STATE best(1)=STATE "
                + "take(0) sure(0,5)=STATE best(0)=STATE");
        holds("Promise 14: minute (0 to 1200)",
            "[r05,p40;251] together(0,-1)=OUTSIDE together(0,0)=NONE together(0,1200)=1195 together(0,1201)=OUTSIDE "
                + "together(0,2147483647)=OUTSIDE together(0,-2147483648)=OUTSIDE");
        holds("Promise 15: out (50 to 199)",
            "[r05,p40;251] boil(0) tell(0,49)=OUTSIDE tell(0,50)=1 tell(0,199)=2 tell(0,200)=OUTSIDE "
                + "tell(0,-1)=OUTSIDE count(7)=2");
        holds("Promise 16: nothing is TOLD any more",
            "[r05,p40;251] boil(0) tell(0,50) wound(0)=0 forget()=1 wound(0)=25 wound(1)=1");
        holds("Promise 17: what = 0 how many, 1 the least (NONE)",
            "[r05,p40;251] wound(-1)=OUTSIDE wound(0)=25 wound(1)=1 wound(2)=OUTSIDE boil(0) tell(0,50) wound(0)=0 "
                + "wound(1)=NONE");
        holds("Promise 18: times (1 to 30)",
            "[r05,p40;251] evenings(0,0,2)=OUTSIDE evenings(1,0,2)=1406932606 evenings(30,0,2)=321843028 "
                + "evenings(31,0,2)=OUTSIDE evenings(-1,0,2)=OUTSIDE");
        holds("Promise 18: seed (0 at least)",
            "[r05,p40;251] evenings(1,-1,2)=OUTSIDE evenings(1,0,2)=1406932606 evenings(1,2147483647,2)=288979989 "
                + "evenings(1,-2147483648,2)=OUTSIDE");
        holds("Promise 18: what = 0 to 2",
            "[p01,p01;011] evenings(1,0,-1)=OUTSIDE evenings(1,0,0)=1 evenings(1,0,1)=0 evenings(1,0,2)=1406932606 "
                + "evenings(1,0,3)=OUTSIDE");
    }

    private static void imageAndRestore() {
        holds("Promise 19: STATE: no KITCHEN", "image()=STATE restore()=STATE [r05,p40;251] image()=0");
        holds("Promise 19: An IMAGE is kept (one; the latest)",
            "[r05,p40;251] wind(3) image()=3 wind(3) image()=6 wind(3) restore()=6 restore()=6 wind(1) image()=7 "
                + "restore()=7");
        holds("Promise 20: none was kept",
            "[r05,p40;251] restore()=STATE wind(9) restore()=STATE count(3)=9 image()=9 restore()=9");
        holds("Promise 20: or there is another KITCHEN since",
            "[r05,p40;251] wind(9) image()=9 <r05,p40;251> restore()=9 kitchen()=2 restore()=STATE count(3)=0 "
                + "image()=0 restore()=0",
            "[r05,p40;251] wind(9) image()=9 <r05> kitchen()=STATE restore()=9");
    }

    private static void count() {
        holds("Promise 21: what, 0 to 10",
            "count(-1)=OUTSIDE count(0)=0 count(10)=0 count(11)=OUTSIDE count(2147483647)=OUTSIDE "
                + "count(-2147483648)=OUTSIDE");
        holds("Promise 21: SPRING (0: no KITCHEN)", "count(1)=0 [r05,p40;011] count(1)=1 [r05,p40;601] count(1)=60");
        holds("Promise 21: POTS that BOIL, HANDS that are FREE",
            "[p05,e05,r05,s05;604] count(4)=0 boil(3) count(4)=1 boil(0) boil(1) boil(2) count(4)=4 count(5)=4 "
                + "take(3) count(4)=3 count(5)=3");
        holds("Promise 21: letters of THE PAGE, how often plan() was done",
            "count(8)=0 21*letter(32) count(8)=21 letter(32)=FULL count(8)=21 plan(0)=STATE count(10)=0");
    }

    private static void digests(String sentence, String steps, long... numbers) {
        cases++;
        long h = 929;
        for (long number : numbers) {
            h = 31 * h + number;
        }
        Asked.due(sentence + " | " + steps, Script.run(sentence, steps).digest(), h);
    }

    private static void digest() {
        // 929 times 31 to the 11 is 23604475036760087999, beyond a long.
        holds("Promise 22: as longs, wrapping",
            "digest()=5157730963050536383", "[e09,r18;251] digest()=-6301445926085569838");
        digests("Promise 22: no KITCHEN: neither POTS nor what wound() tells", "", 0, 0, 0, 0, 0, 0, 0, 0, 0, 0, 0);
        digests("Promise 22: letters of THE PAGE, the least and the most code", "letter(32) letter(126)",
            32, 126, 0, 0, 0, 0, 0, 0, 0, 0, 2, 0, 0);
        digests("Promise 22: letters of THE PAGE, as it is full", "21*letter(112) letter(112)",
            112, 112, 112, 112, 112, 112, 112, 112, 112, 112, 112, 112, 112, 112, 112, 112, 112, 112, 112, 112, 112,
            0, 0, 0, 0, 0, 0, 0, 0, 21, 0, 0);
        digests("Promise 22: BEST (0: it does not BOIL)", "[p05,r05;602] boil(1) wind(5)",
            0, 5, 0, -1, -1, -1, 0, -1, 0, 55,
            2, 5, 3, 0, 5, 100, 0, -1, 1, 55,
            60, 1, 2, 60, 2, 5, 1, 2, 1, 0, 0, 1, 0);
        digests("Promise 22: TOGETHER at MINUTE 60", "[p05,r40;602] wind(55)",
            0, 5, 0, -1, -1, -1, 0, -1, 0, 55,
            2, 40, 3, -1, -1, -1, 0, -1, 0, -1,
            60, 1, 2, 60, 2, 55, 0, 2, 1, 0, 0, 1, 0);
        digests("Promise 22: TOGETHER at MINUTE 60, as it is over", "[p05,r40;602] wind(56) boil(0) take(0) boil(0) "
            + "tell(0,50) plan(0) <p>",
            0, 5, 0, 56, 61, 95, 1, 95, 5, -1,
            2, 40, 3, -1, -1, -1, 0, -1, 0, -1,
            0, -1, 112, 2, 60, 2, 56, 1, 1, 1, 1, 1, 1, 1);
        digests("Promise 22: of each of four POTS", "[p01,e02,s03,b04;011]",
            0, 1, 0, -1, -1, -1, 0, -1, 0, 59,
            1, 2, 1, -1, -1, -1, 0, -1, 0, 58,
            3, 3, 9, -1, -1, -1, 0, -1, 0, 57,
            4, 4, 6, -1, -1, -1, 0, -1, 0, 56,
            1, 1, 4, 1, 1, 0, 0, 1, 0, 0, 0, 1, 0);
    }
}

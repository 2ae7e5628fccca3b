/** For each promise of the document ordinary inputs, its edges and wrong inputs, with the answers written out. */
public final class PromiseTests {
    private static final int NONE = -1, UNKNOWN = -101, OUTSIDE = -102, STATE = -103, FULL = -104;

    public static void main(String[] args) {
        newObject();
        letter();
        blank();
        fault();
        kitchen();
        kitchenIsNone();
        about();
        as();
        boil();
        wind();
        take();
        planFewest();
        planFirst();
        planRefusals();
        behindTheLastMinute();
        sure();
        best();
        together();
        tell();
        forget();
        wound();
        evenings();
        image();
        restore();
        count();
        digest();
        refusalsChangeNothing();
        Asked.end();
    }

    private static void due(String call, long got, long want) {
        Asked.due(call, got, want);
    }

    private static OneTimer written(String text) {
        OneTimer x = new OneTimer();
        write(x, text);
        return x;
    }

    private static void write(OneTimer x, String text) {
        for (int i = 0; i < text.length(); i++) {
            x.letter(text.charAt(i));
        }
    }

    private static OneTimer read(String text) {
        OneTimer x = written(text);
        due("1/5 kitchen of " + text, x.kitchen(), text.length() / 4);
        return x;
    }

    private static OneTimer boiling(String text) {
        OneTimer x = read(text);
        for (int pot = 0; pot < x.count(0); pot++) {
            x.boil(pot);
        }
        return x;
    }

    private static void newObject() {
        OneTimer x = new OneTimer();
        for (int what = 0; what <= 10; what++) {
            due("1 new count(" + what + ")", x.count(what), 0);
        }
        due("1 about", x.about(0, 0), UNKNOWN);
        due("1 as", x.as(0, 0), UNKNOWN);
        due("1 boil", x.boil(0), UNKNOWN);
        due("1 take", x.take(0), UNKNOWN);
        due("1 sure", x.sure(0, 1), UNKNOWN);
        due("1 best", x.best(0), UNKNOWN);
        due("1 together", x.together(0, 60), UNKNOWN);
        due("1 tell", x.tell(0, 100), UNKNOWN);
        due("1 wind", x.wind(60), STATE);
        due("1 plan", x.plan(0), STATE);
        due("1 wound", x.wound(1), STATE);
        due("1 evenings", x.evenings(1, 0, 0), STATE);
        due("1 image", x.image(), STATE);
        due("1 restore", x.restore(), STATE);
        due("1 kitchen", x.kitchen(), STATE);
        due("1 fault", x.fault(), 0);
        due("1 blank", x.blank(), 0);
        due("1 forget", x.forget(), 0);
    }

    private static void letter() {
        OneTimer x = new OneTimer();
        due("2 letter(31)", x.letter(31), OUTSIDE);
        due("2 letter(127)", x.letter(127), OUTSIDE);
        due("2 letter(-1)", x.letter(-1), OUTSIDE);
        due("2 letter(least int)", x.letter(Integer.MIN_VALUE), OUTSIDE);
        due("2 letter(32)", x.letter(32), 1);
        due("2 letter(126)", x.letter(126), 2);
        for (int n = 3; n <= 21; n++) {
            due("2 letter " + n, x.letter('p'), n);
        }
        due("2 letter 22", x.letter('p'), FULL);
        due("2 code ahead of full", x.letter(31), OUTSIDE);
        due("2 still 21", x.count(8), 21);
    }

    private static void blank() {
        OneTimer x = written("e09,");
        due("3 blank", x.blank(), 4);
        due("3 blank again", x.blank(), 0);
        due("3 letter behind it", x.letter('e'), 1);
    }

    private static void fault() {
        String[] texts = {
            "", "p", "x", "P", ",", "p0", "p4", "p5", "p:", "p00", "p01", "p09", "p0:", "p10", "p39", "p40", "p41",
            "p01;", "p01,", "p01.", "p01,,", "p01,e", "p01,e40;", "p01,e40,", "p01,e40:", "p01,e40;0", "p01,e40;6",
            "p01,e40;7", "p01,e40;00", "p01,e40;01", "p01,e40;59", "p01,e40;60", "p01,e40;61", "p01,e40;600",
            "p01,e40;601", "p01,e40;604", "p01,e40;605", "p01,e40;6041", "p01,e40;604;", "p01,e40,r", "p01,e40,r01,",
            "p01,e40,r01;", "p01,e40,r01,b01;", "p01,e40,r01,b01,", "p01,e40,r01,b01;604", "p01,e40,r01,b01;6044",
            "a01", " p01", "p01,q", "p01,e40;;", "p01,e40,r01,b01;1", "s4x", "s19", "s20x"};
        int[] places = {
            0, 1, 0, 0, 0, 2, 2, 1, 1, 2, 3, 3, 2, 3, 3, 3, 2,
            3, 4, 3, 4, 5, 8, 8, 7, 9, 9,
            8, 9, 10, 10, 10, 9, 10,
            11, 11, 10, 11, 11, 9, 12,
            12, 16, 15, 19, 19,
            0, 0, 4, 8, 17, 2, 3, 3};
        for (int i = 0; i < texts.length; i++) {
            OneTimer x = written(texts[i]);
            due("4 fault of " + texts[i], x.fault(), places[i]);
            due("4 page is left, " + texts[i], x.count(8), texts[i].length());
        }
    }

    private static void kitchen() {
        OneTimer x = read("p05,e40,b01;601");
        due("5 page is empty", x.count(8), 0);
        due("5 spring", x.count(1), 60);
        due("5 hands", x.count(2), 1);
        due("5 free", x.count(5), 1);
        x.boil(0);
        x.wind(60);
        x.take(0);
        x.boil(1);
        x.tell(1, 100);
        x.plan(0);
        x.image();
        write(x, "s10,r07;054");
        due("5 another", x.kitchen(), 2);
        due("5 kinds", x.about(0, 0) * 10 + x.about(1, 0), 32);
        due("5 third is gone", x.about(2, 0), UNKNOWN);
        due("5 none boils", x.count(4), 0);
        due("5 minute", x.count(3), 0);
        due("5 free anew", x.count(5), 4);
        due("5 windings", x.count(6), 0);
        due("5 told", x.count(7), 0);
        due("5 read twice", x.count(9), 2);
        due("5 plans stay", x.count(10), 1);
        due("5 taken", x.about(0, 6), 0);
        due("5 last", x.about(0, 7), NONE);
        due("5 image is gone", x.restore(), STATE);
    }

    private static void kitchenIsNone() {
        String[] none = {
            "", "p01", "p01;", "p01;601", "p01,e02", "p01,e02;", "p01,e02;1", "p01,e02;11", "p01,e02;110", "p01,e02;115",
            "p01,e02;1111", "p01,e02,r03", "p01,e02,p;11", "p01,e02,r03,s04,b05;111", "p41,e02;111", "p01,e02;001",
            "p01,e02;611", "p01,e02,r03,s04"};
        for (String text : none) {
            OneTimer x = written(text);
            int letters = x.count(8);
            due("5 kitchen of " + text, x.kitchen(), STATE);
            due("5 page stays, " + text, x.count(8), letters);
            due("5 none read, " + text, x.count(9), 0);
        }
    }

    private static void about() {
        OneTimer x = read("e09,r18,s40,b12;252");
        int[] kinds = {1, 2, 3, 4};
        int[] wants = {9, 18, 40, 12};
        int[] keeps = {1, 3, 9, 6};
        for (int pot = 0; pot < 4; pot++) {
            due("6 kind", x.about(pot, 0), kinds[pot]);
            due("6 wants", x.about(pot, 1), wants[pot]);
            due("6 keeps", x.about(pot, 2), keeps[pot]);
            due("6 since", x.about(pot, 3), NONE);
            due("6 due", x.about(pot, 4), NONE);
            due("6 out now", x.about(pot, 5), NONE);
            due("6 taken", x.about(pot, 6), 0);
            due("6 last", x.about(pot, 7), NONE);
        }
        OneTimer p = read("p01,p40;011");
        due("6 kind of a pot", p.about(0, 0), 0);
        due("6 a pot keeps", p.about(0, 2), 0);
        x.wind(3);
        x.boil(0);
        due("6 since 3", x.about(0, 3), 3);
        due("6 due at 12", x.about(0, 4), 12);
        due("6 raw by 9", x.about(0, 5), 91);
        x.wind(9);
        due("6 good as due", x.about(0, 5), 100);
        x.wind(1);
        due("6 good as it keeps", x.about(0, 5), 100);
        x.wind(1);
        due("6 ruined by 1", x.about(0, 5), 101);
        x.take(0);
        due("6 since none", x.about(0, 3), NONE);
        due("6 due none", x.about(0, 4), NONE);
        due("6 out none", x.about(0, 5), NONE);
        due("6 taken once", x.about(0, 6), 1);
        due("6 last 101", x.about(0, 7), 101);
        due("6 pot -1", x.about(-1, 0), UNKNOWN);
        due("6 pot 4", x.about(4, 0), UNKNOWN);
        due("6 pot 2 of two", p.about(2, 0), UNKNOWN);
        due("6 what -1", x.about(0, -1), OUTSIDE);
        due("6 what 8", x.about(0, 8), OUTSIDE);
        due("6 pot ahead of what", x.about(4, 8), UNKNOWN);
    }

    private static void as() {
        OneTimer x = read("b09,s18,r40,e12;252");
        int[][] want = {
            {0, NONE, 0, NONE, 0}, {1, NONE, NONE, 1, NONE}, {2, NONE, 2, NONE, NONE}, {3, 3, NONE, NONE, NONE}};
        for (int pot = 0; pot < 4; pot++) {
            for (int kind = 0; kind < 5; kind++) {
                due("7 as(" + pot + ", " + kind + ")", x.as(pot, kind), want[pot][kind]);
            }
        }
        OneTimer p = read("e01,p40;011");
        for (int kind = 0; kind < 5; kind++) {
            due("7 a pot as " + kind, p.as(1, kind), kind == 0 ? 1 : NONE);
        }
        due("7 pot", x.as(4, 0), UNKNOWN);
        due("7 pot", x.as(-1, 9), UNKNOWN);
        due("7 kind 5", x.as(0, 5), OUTSIDE);
        due("7 kind -1", x.as(0, -1), OUTSIDE);
    }

    private static void boil() {
        OneTimer x = read("e09,r18;251");
        due("8 boil", x.boil(0), 9);
        due("8 boils already", x.boil(0), STATE);
        due("8 one boils", x.count(4), 1);
        x.wind(10);
        due("8 from then on", x.boil(1), 28);
        x.take(0);
        due("8 anew, without a hand", x.boil(0), 19);
        due("8 hands", x.count(5), 0);
        due("8 pot", x.boil(2), UNKNOWN);
        due("8 pot", x.boil(-1), UNKNOWN);
    }

    private static void wind() {
        OneTimer x = new OneTimer();
        due("9 no kitchen, 0", x.wind(0), OUTSIDE);
        due("9 no kitchen, 1", x.wind(1), STATE);
        due("9 no kitchen, 60", x.wind(60), STATE);
        due("9 no kitchen, 61", x.wind(61), OUTSIDE);
        x = boiling("e09,r18;502");
        x.take(0);
        x.take(1);
        due("9 0", x.wind(0), OUTSIDE);
        due("9 -1", x.wind(-1), OUTSIDE);
        due("9 above spring", x.wind(51), OUTSIDE);
        due("9 most", x.wind(Integer.MAX_VALUE), OUTSIDE);
        due("9 no hand yet", x.count(5), 0);
        due("9 1", x.wind(1), 1);
        due("9 hands are free", x.count(5), 2);
        for (int n = 1; n < 20; n++) {
            due("9 wind(50)", x.wind(50), 1 + 50 * n);
        }
        due("9 at 951", x.wind(49), STATE);
        due("9 outside ahead of state", x.wind(51), OUTSIDE);
        due("9 to 999", x.wind(48), 999);
        due("9 above 999", x.wind(1), STATE);
        due("9 windings", x.count(6), 21);
    }

    private static void take() {
        OneTimer x = read("p05,e05,b05;602");
        due("10 does not boil", x.take(0), STATE);
        x.boil(0);
        x.boil(1);
        x.boil(2);
        x.wind(1);
        due("10 raw by 4", x.take(0), 96);
        due("10 does not boil then", x.take(0), STATE);
        due("10 a hand left", x.count(5), 1);
        x.wind(10);
        due("10 as it keeps", x.take(2), 100);
        due("10 ruined by 5", x.take(1), 105);
        x.boil(0);
        due("10 no hand", x.take(0), STATE);
        x.wind(5);
        due("10 good", x.take(0), 100);
        due("10 taken twice", x.about(0, 6), 2);
        due("10 last", x.about(0, 7), 100);
        due("10 pot", x.take(3), UNKNOWN);
        due("10 pot", x.take(-1), UNKNOWN);
    }

    private static void plan(OneTimer x, String which, int few, int first) {
        due("11 " + which + ", how few", x.plan(0), few);
        due("11 " + which + ", first", x.plan(1), first);
    }

    private static void planFewest() {
        plan(read("p05,e05;602"), "none boils", 0, NONE);
        plan(boiling("p05,p05;602"), "two hands", 1, 5);
        plan(boiling("p05,p05;601"), "one hand, both at once", NONE, NONE);
        plan(boiling("p05,e05;601"), "one hand, one keeps", 2, 5);
        plan(boiling("s10,b13,r16,e19;604"), "all at one ring", 1, 19);
        plan(boiling("s10,b13,r16,e19;601"), "a ring each", 4, 10);
        plan(boiling("s10,e20;602"), "apart", 2, 10);
        plan(boiling("s10,e18;602"), "together as one keeps", 1, 18);
        plan(boiling("s40,s40;014"), "spring of one", 40, 1);
        plan(boiling("s30,e30;204"), "too far for one winding", 2, 10);
        plan(boiling("p39,p40;204"), "two parts", 3, 19);
    }

    private static void planFirst() {
        OneTimer x = boiling("e09,r18,b12;251");
        x.wind(9);
        plan(x, "take now", 2, 3);
        x.take(0);
        plan(x, "no hand now", 2, 3);
        x = boiling("e05,r05;601");
        x.wind(5);
        plan(x, "either now", 1, 1);
        x = boiling("p05,r05;602");
        x.wind(5);
        plan(x, "both now", 0, NONE);
        x = boiling("p05,p05,s05;601");
        x.wind(5);
        x.take(0);
        plan(x, "one is lost", NONE, NONE);
        x = boiling("e05,e40;602");
        x.wind(7);
        plan(x, "one is ruined", NONE, NONE);
        x.take(0);
        plan(x, "the ruined one is off", 1, 33);
    }

    private static void planRefusals() {
        OneTimer x = read("e09,r18;251");
        due("11 what -1", x.plan(-1), OUTSIDE);
        due("11 what 2", x.plan(2), OUTSIDE);
        for (int n = 0; n < 20; n++) {
            due("11 plan " + n, x.plan(n % 2), n % 2 == 0 ? 0 : NONE);
        }
        due("11 20 times", x.plan(0), STATE);
        due("11 outside ahead of state", x.plan(2), OUTSIDE);
        due("11 count", x.count(10), 20);
        write(x, "e09,r18;251");
        x.kitchen();
        due("11 20 times, of all kitchens", x.plan(0), STATE);
    }

    private static void behindTheLastMinute() {
        OneTimer x = read("e01,r40;601");
        for (int n = 0; n < 16; n++) {
            x.wind(60);
        }
        due("9 to 999", x.wind(39), 999);
        due("8 due behind 999", x.boil(0), 1000);
        due("8 due behind 999", x.boil(1), 1039);
        due("11 planned behind 999", x.plan(0), 2);
        due("11 planned behind 999", x.plan(1), 1);
        due("12 sure behind 999", x.sure(1, 41), 20);
        due("13 best behind 999", x.best(1), 41);
        due("14 together behind 999", x.together(1, 1038), NONE);
        due("14 together behind 999", x.together(1, 1039), 999);
    }

    private static void sure() {
        OneTimer x = boiling("p05,e05,b05,s01;302");
        int[] pot = {0, 0, 0, 1, 18, 1, 0};
        int[] eggs = {0, 0, 0, 1, 19, 19, 1};
        for (int minutes = 1; minutes <= 7; minutes++) {
            due("12 a pot by " + minutes, x.sure(0, minutes), pot[minutes - 1]);
            due("12 eggs by " + minutes, x.sure(1, minutes), eggs[minutes - 1]);
        }
        due("12 beans by 5", x.sure(2, 5), 19);
        due("12 beans by 6", x.sure(2, 6), 20);
        due("12 beans by 11", x.sure(2, 11), 19);
        due("12 beans by 12", x.sure(2, 12), 1);
        due("12 stew by 1", x.sure(3, 1), 19);
        x.wind(5);
        due("12 a minute sooner is now", x.sure(0, 1), 1);
        x.take(0);
        due("12 minutes 0", x.sure(0, 0), OUTSIDE);
        due("12 minutes 31", x.sure(0, 31), OUTSIDE);
        due("12 does not boil", x.sure(0, 30), STATE);
        due("12 pot", x.sure(4, 0), UNKNOWN);
        due("12 minutes", x.sure(1, -5), OUTSIDE);
    }

    private static void best() {
        OneTimer x = boiling("p05,e05,b05,s31;302");
        due("13 a pot", x.best(0), 5);
        due("13 eggs", x.best(1), 5);
        due("13 beans", x.best(2), 6);
        due("13 by a minute later", x.best(3), 30);
        x.wind(8);
        due("13 good now", x.best(2), 1);
        due("13 ruined", x.best(0), 1);
        x.take(0);
        due("13 does not boil", x.best(0), STATE);
        due("13 pot", x.best(4), UNKNOWN);
        due("13 pot", x.best(-1), UNKNOWN);
    }

    private static void together() {
        OneTimer x = read("e09,r18;252");
        due("14 at 60", x.together(0, 60), 51);
        due("14 at 9", x.together(0, 9), 0);
        due("14 at 8", x.together(0, 8), NONE);
        due("14 at 0", x.together(0, 0), NONE);
        due("14 at 1200", x.together(1, 1200), 1182);
        due("14 minute 1201", x.together(1, 1201), OUTSIDE);
        due("14 minute -1", x.together(1, -1), OUTSIDE);
        due("14 pot", x.together(2, -1), UNKNOWN);
        x.boil(0);
        x.wind(10);
        due("14 as if it did not yet", x.together(0, 19), 10);
        due("14 over", x.together(0, 18), NONE);
    }

    private static void tell() {
        OneTimer x = read("e09,r18;252");
        due("15 does not boil", x.tell(0, 100), STATE);
        due("15 out 49", x.tell(0, 49), OUTSIDE);
        due("15 out 200", x.tell(0, 200), OUTSIDE);
        due("15 pot", x.tell(2, 200), UNKNOWN);
        x.boil(0);
        due("15 out 50", x.tell(0, 50), 1);
        due("15 out 199", x.tell(0, 199), 2);
        for (int n = 3; n <= 6; n++) {
            due("15 tell " + n, x.tell(0, 100), n);
        }
        due("15 full", x.tell(0, 100), FULL);
        due("15 outside ahead of full", x.tell(0, 49), OUTSIDE);
        due("15 state ahead of full", x.tell(1, 100), STATE);
        due("15 told", x.count(7), 6);
        due("15 it boils on", x.count(4), 1);
    }

    private static void forget() {
        OneTimer x = boiling("e09,r18;252");
        x.tell(0, 100);
        x.tell(1, 99);
        due("16 forget", x.forget(), 2);
        due("16 again", x.forget(), 0);
        due("16 all fit", x.wound(0), 25);
        due("16 tell anew", x.tell(0, 100), 1);
    }

    private static void wound(OneTimer x, String which, int many, int least) {
        due("17 " + which + ", how many", x.wound(0), many);
        due("17 " + which + ", the least", x.wound(1), least);
    }

    private static void wound() {
        OneTimer x = boiling("e09,r18,b12;253");
        wound(x, "nothing told", 25, 1);
        x.tell(2, 100);
        wound(x, "beans are good", 7, 12);
        x.tell(1, 101);
        wound(x, "rice is ruined by 1", 0, NONE);
        x.forget();
        x.tell(1, 98);
        wound(x, "rice is raw by 2", 1, 16);
        x.tell(0, 106);
        wound(x, "eggs are ruined by 6", 1, 16);
        x.forget();
        x.tell(1, 100);
        wound(x, "rice is good", 4, 18);
        x.wind(8);
        x.take(1);
        wound(x, "by what was then", 4, 18);
        x.tell(2, 114);
        wound(x, "by what is now", 0, NONE);
        x.forget();
        x.tell(2, 112);
        wound(x, "beans are ruined by 12", 1, 22);
        due("17 what -1", x.wound(-1), OUTSIDE);
        due("17 what 2", x.wound(2), OUTSIDE);
        due("17 what ahead of no kitchen", new OneTimer().wound(2), OUTSIDE);
    }

    private static void evenings() {
        OneTimer x = read("s30,s30;204");
        due("18 seed by 1", x.evenings(1, 0, 2), 1406932606);
        due("18 seed by 5, of the most", x.evenings(5, Integer.MAX_VALUE, 2), 834541773);
        x.boil(0);
        x.wind(20);
        long before = x.digest();
        x.evenings(30, 5, 0);
        due("18 changes nothing", x.digest(), before);
        due("18 times 0", x.evenings(0, 0, 0), OUTSIDE);
        due("18 times 31", x.evenings(31, 0, 0), OUTSIDE);
        due("18 seed -1", x.evenings(1, -1, 0), OUTSIDE);
        due("18 what -1", x.evenings(1, 0, -1), OUTSIDE);
        due("18 what 3", x.evenings(1, 0, 3), OUTSIDE);
        due("18 outside ahead of state", new OneTimer().evenings(31, 0, 0), OUTSIDE);
        due("18 state", new OneTimer().evenings(30, 0, 2), STATE);
        // By a spring of one it rings at each minute, whatever is drawn.
        OneTimer one = read("p01,s01;011");
        due("18 first ring is good", one.evenings(1, 3, 0), 1);
        due("18 first ring ruins none", one.evenings(1, 3, 1), 0);
        OneTimer late = read("p01,p01;011");
        due("18 one at the first ring is good", late.evenings(30, 3, 0), 1);
        due("18 the other is ruined", late.evenings(30, 3, 1), 1);
        OneTimer raw = read("s40,s40;011");
        due("18 raw is not good", raw.evenings(30, 3, 0), 0);
        due("18 raw is not ruined", raw.evenings(30, 3, 1), 0);
        OneTimer drawn = read("e09,r18,b12;251");
        due("18 ruined by the draws", drawn.evenings(20, 77, 1), 3);
    }

    private static void image() {
        OneTimer x = boiling("e09,r18;252");
        due("19 image at 0", x.image(), 0);
        x.wind(9);
        due("19 image at 9", x.image(), 9);
        x.wind(9);
        due("19 the latest", x.restore(), 9);
        due("19 the minute", x.count(3), 9);
        due("19 state", new OneTimer().image(), STATE);
    }

    private static void restore() {
        OneTimer x = boiling("e09,r18;252");
        due("20 none was kept", x.restore(), STATE);
        x.wind(9);
        x.take(0);
        x.tell(1, 97);
        x.image();
        long then = x.digest();
        x.forget();
        x.tell(1, 100);
        x.tell(1, 100);
        x.wind(9);
        x.take(1);
        x.boil(0);
        x.plan(0);
        x.letter('p');
        due("20 restore", x.restore(), 9);
        due("20 plans go on", x.count(10), 1);
        due("20 the page stays", x.blank(), 1);
        due("20 free", x.count(5), 1);
        due("20 windings", x.count(6), 1);
        due("20 told", x.count(7), 1);
        due("20 what is told", x.wound(1), 6);
        due("20 eggs do not boil", x.about(0, 3), NONE);
        due("20 eggs were taken", x.about(0, 6), 1);
        due("20 how they came out", x.about(0, 7), 100);
        due("20 rice boils", x.about(1, 3), 0);
        due("20 rice was not taken", x.about(1, 6), 0);
        due("20 rice came not out", x.about(1, 7), NONE);
        due("20 the same but for plans", x.digest(), then + 1);
        x.wind(1);
        due("20 it is kept on", x.restore(), 9);
        write(x, "e09,r18;252");
        x.kitchen();
        due("20 another kitchen", x.restore(), STATE);
    }

    private static void count() {
        OneTimer x = boiling("e09,r18,s20;252");
        x.letter('e');
        x.wind(9);
        x.wind(1);
        x.take(0);
        x.tell(1, 100);
        x.plan(0);
        int[] want = {3, 25, 2, 10, 2, 1, 2, 1, 1, 1, 1};
        for (int what = 0; what <= 10; what++) {
            due("21 count(" + what + ")", x.count(what), want[what]);
        }
        due("21 what -1", x.count(-1), OUTSIDE);
        due("21 what 11", x.count(11), OUTSIDE);
    }

    private static long fold(long... numbers) {
        long h = 929;
        for (long number : numbers) {
            h = 31 * h + number;
        }
        return h;
    }

    private static void digest() {
        OneTimer x = new OneTimer();
        due("22 new", x.digest(), fold(0, 0, 0, 0, 0, 0, 0, 0, 0, 0, 0));
        x.letter('p');
        x.letter('~');
        due("22 letters by their codes", x.digest(), fold('p', '~', 0, 0, 0, 0, 0, 0, 0, 0, 2, 0, 0));
        x.blank();
        write(x, "e09,b40;252");
        x.kitchen();
        x.boil(0);
        x.wind(25);
        x.letter('s');
        due("22 a kitchen", x.digest(), fold(
            1, 9, 1, 0, 9, 115, 0, NONE, 1, 51,
            4, 40, 6, NONE, NONE, NONE, 0, NONE, 0, NONE,
            25, 1, 's', 2, 25, 2, 25, 1, 2, 1, 0, 1, 1, 0));
    }

    private static void refusalsChangeNothing() {
        OneTimer x = boiling("e09,r18,s20;251");
        x.wind(9);
        x.take(0);
        for (int n = 0; n < 6; n++) {
            x.tell(1, 100);
        }
        for (int n = 0; n < 21; n++) {
            x.letter(',');
        }
        long before = x.digest();
        x.letter(200);
        x.letter('p');
        x.kitchen();
        x.boil(1);
        x.boil(7);
        x.wind(26);
        x.take(1);
        x.take(0);
        x.plan(2);
        x.tell(1, 100);
        x.restore();
        x.evenings(31, 1, 1);
        due("refusals change nothing", x.digest(), before);
    }
}

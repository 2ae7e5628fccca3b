import java.util.ArrayList;
import java.util.List;
import java.util.Set;
import java.util.TreeSet;

/**
 * Each refusal of each call: that it is answered, that of several the first as told is, and that it changes nothing.
 * For the last, the refused call is asked of one of two objects with the same past, and both are then asked on.
 */
public final class RefusalTests {
    private static final String[] TOLD = {
        "letter OUTSIDE", "letter FULL", "kitchen STATE", "about UNKNOWN", "about OUTSIDE", "as UNKNOWN", "as OUTSIDE",
        "boil UNKNOWN", "boil STATE", "wind OUTSIDE", "wind STATE", "take UNKNOWN", "take STATE", "plan OUTSIDE",
        "plan STATE", "sure UNKNOWN", "sure OUTSIDE", "sure STATE", "best UNKNOWN", "best STATE", "together UNKNOWN",
        "together OUTSIDE", "tell UNKNOWN", "tell OUTSIDE", "tell STATE", "tell FULL", "wound OUTSIDE", "wound STATE",
        "evenings OUTSIDE", "evenings STATE", "image STATE", "restore STATE", "count OUTSIDE"};

    private static final String NEW = "";
    private static final String FULL_PAGE = "20*letter(112) letter(59)";
    private static final String COLD = "[e09,r18,b12;251]";
    // Minute 9: the eggs were taken, the rice boils, the beans do not, no hand is free; the image is of minute 5.
    private static final String HOT =
        COLD + " boil(0) boil(1) tell(0,99) wind(5) image() wind(4) take(0) tell(1,100) plan(0) <p01,e>";
    // Six are told, all of them so by one winding.
    private static final String TOLD_ALL = COLD + " boil(0) boil(1) tell(0,100) tell(1,92) image() tell(0,100) "
        + "3*tell(1,92)";
    private static final String PLANNED_ALL = COLD + " boil(1) 20*plan(0)";
    // Minute 990, and no hand is free.
    private static final String LATE = COLD + " boil(0) 39*wind(25) wind(15) image() boil(1) tell(1,99) take(1)";
    private static final String ANOTHER = COLD + " boil(1) wind(7) image() " + COLD + " wind(2) boil(0) boil(2) "
        + "take(0)";
    private static final String[] STATES = {NEW, FULL_PAGE, COLD, HOT, TOLD_ALL, PLANNED_ALL, LATE, ANOTHER};

    private static final Set<String> SEEN = new TreeSet<>();
    private static final List<String> CALLS = new ArrayList<>();

    public static void main(String[] args) {
        letterAndKitchen();
        aboutAndAs();
        boilWindTake();
        plan();
        sureBestTogether();
        tell();
        woundAndEvenings();
        imageRestoreCount();
        allAsTold();
        everyStateWithEveryCall();
        Asked.end();
    }

    private static void refused(String state, String call, String want) {
        OneTimer asked = Script.run("state", state);
        Asked.due(state + " | " + call, Script.ask(asked, call), Script.number(want));
        same(state + " | " + call, asked, Script.run("state", state));
        SEEN.add(call.substring(0, call.indexOf('(')) + " " + want);
        CALLS.add(call);
    }

    /** What both answer from now on; what is kept or told is seen only by what comes of it. */
    private static void same(String name, OneTimer asked, OneTimer left) {
        String[] on = {
            "digest()", "fault()", "wound(0)", "wound(1)", "plan(0)", "plan(1)", "count(10)", "evenings(9,7,2)",
            "best(0)", "best(1)", "best(2)", "tell(1,97)", "wound(1)", "take(1)", "boil(2)", "digest()",
            "restore()", "digest()", "wound(0)", "wound(1)", "take(0)", "take(1)", "wind(3)", "digest()",
            "kitchen()", "letter(112)", "digest()", "blank()", "forget()", "digest()", "restore()", "digest()"};
        for (String call : on) {
            Asked.due(name + ", changes nothing: " + call, Script.ask(asked, call), Script.ask(left, call));
        }
    }

    private static void letterAndKitchen() {
        for (String code : new String[] {"31", "127", "-1", "0", "2147483647", "-2147483648"}) {
            refused(NEW, "letter(" + code + ")", "OUTSIDE");
            refused(HOT, "letter(" + code + ")", "OUTSIDE");
            refused(FULL_PAGE, "letter(" + code + ")", "OUTSIDE");
        }
        refused(FULL_PAGE, "letter(32)", "FULL");
        refused(FULL_PAGE, "letter(126)", "FULL");
        refused(COLD + " " + FULL_PAGE, "letter(112)", "FULL");
        refused(NEW, "kitchen()", "STATE");
        refused("<p01,e02;60>", "kitchen()", "STATE");
        refused("<p01,e02;6011>", "kitchen()", "STATE");
        refused("<p01;601>", "kitchen()", "STATE");
        refused("<p01,e41;601>", "kitchen()", "STATE");
        refused(FULL_PAGE, "kitchen()", "STATE");
        refused(HOT, "kitchen()", "STATE");
        refused(HOT + " blank()", "kitchen()", "STATE");
        refused(HOT + " <40;600>", "kitchen()", "STATE");
    }

    private static void aboutAndAs() {
        for (String call : new String[] {"about", "as"}) {
            int most = call.equals("about") ? 7 : 4;
            for (int number : new int[] {-1, 3, 4, 2147483647, -2147483648}) {
                refused(HOT, call + "(" + number + ",0)", "UNKNOWN");
                refused(HOT, call + "(" + number + "," + most + ")", "UNKNOWN");
                refused(HOT, call + "(" + number + "," + (most + 1) + ")", "UNKNOWN");
                refused(HOT, call + "(" + number + ",-1)", "UNKNOWN");
                refused(NEW, call + "(" + number + ",-1)", "UNKNOWN");
            }
            refused(NEW, call + "(0,0)", "UNKNOWN");
            refused(NEW, call + "(0," + (most + 1) + ")", "UNKNOWN");
            refused(ANOTHER, call + "(3,0)", "UNKNOWN");
            for (int pot = 0; pot < 3; pot++) {
                refused(HOT, call + "(" + pot + ",-1)", "OUTSIDE");
                refused(HOT, call + "(" + pot + "," + (most + 1) + ")", "OUTSIDE");
                refused(HOT, call + "(" + pot + ",2147483647)", "OUTSIDE");
                refused(HOT, call + "(" + pot + ",-2147483648)", "OUTSIDE");
            }
        }
    }

    private static void boilWindTake() {
        for (String call : new String[] {"boil", "take"}) {
            refused(NEW, call + "(0)", "UNKNOWN");
            refused(COLD, call + "(3)", "UNKNOWN");
            refused(COLD, call + "(-1)", "UNKNOWN");
            refused(HOT, call + "(3)", "UNKNOWN");
            refused(HOT, call + "(2147483647)", "UNKNOWN");
            refused(HOT, call + "(-2147483648)", "UNKNOWN");
        }
        refused(HOT, "boil(1)", "STATE");
        refused(LATE, "boil(0)", "STATE");
        refused(COLD, "take(0)", "STATE");
        refused(COLD + " boil(0)", "take(1)", "STATE");
        refused(HOT, "take(0)", "STATE");
        refused(HOT, "take(1)", "STATE");
        refused(HOT, "take(2)", "STATE");
        for (String minutes : new String[] {"0", "-1", "61", "2147483647", "-2147483648"}) {
            refused(NEW, "wind(" + minutes + ")", "OUTSIDE");
            refused(HOT, "wind(" + minutes + ")", "OUTSIDE");
            refused(LATE, "wind(" + minutes + ")", "OUTSIDE");
        }
        refused(HOT, "wind(26)", "OUTSIDE");
        refused(LATE, "wind(26)", "OUTSIDE");
        refused(NEW, "wind(1)", "STATE");
        refused(NEW, "wind(60)", "STATE");
        refused(LATE, "wind(10)", "STATE");
        refused(LATE, "wind(25)", "STATE");
        refused(LATE + " wind(9)", "wind(1)", "STATE");
        refused(LATE + " wind(9) take(0)", "wind(25)", "STATE");
    }

    private static void plan() {
        for (String what : new String[] {"-1", "2", "2147483647", "-2147483648"}) {
            refused(NEW, "plan(" + what + ")", "OUTSIDE");
            refused(HOT, "plan(" + what + ")", "OUTSIDE");
            refused(PLANNED_ALL, "plan(" + what + ")", "OUTSIDE");
        }
        refused(NEW, "plan(0)", "STATE");
        refused(NEW, "plan(1)", "STATE");
        refused(PLANNED_ALL, "plan(0)", "STATE");
        refused(PLANNED_ALL, "plan(1)", "STATE");
    }

    private static void sureBestTogether() {
        for (String pot : new String[] {"-1", "3", "4", "2147483647", "-2147483648"}) {
            refused(HOT, "sure(" + pot + ",1)", "UNKNOWN");
            refused(HOT, "sure(" + pot + ",0)", "UNKNOWN");
            refused(HOT, "sure(" + pot + ",26)", "UNKNOWN");
            refused(HOT, "best(" + pot + ")", "UNKNOWN");
            refused(HOT, "together(" + pot + ",60)", "UNKNOWN");
            refused(HOT, "together(" + pot + ",-1)", "UNKNOWN");
            refused(HOT, "together(" + pot + ",1201)", "UNKNOWN");
        }
        refused(NEW, "sure(0,1)", "UNKNOWN");
        refused(NEW, "sure(0,0)", "UNKNOWN");
        refused(NEW, "best(0)", "UNKNOWN");
        refused(NEW, "together(0,60)", "UNKNOWN");
        refused(NEW, "together(0,1201)", "UNKNOWN");
        for (String minutes : new String[] {"0", "26", "61", "-1", "2147483647", "-2147483648"}) {
            // Pot 1 boils; pot 0 does not, which is told behind it.
            refused(HOT, "sure(1," + minutes + ")", "OUTSIDE");
            refused(HOT, "sure(0," + minutes + ")", "OUTSIDE");
        }
        refused(HOT, "sure(0,1)", "STATE");
        refused(COLD, "sure(0,25)", "STATE");
        refused(HOT, "best(0)", "STATE");
        refused(COLD, "best(2)", "STATE");
        for (String minute : new String[] {"-1", "1201", "2147483647", "-2147483648"}) {
            refused(HOT, "together(0," + minute + ")", "OUTSIDE");
            refused(HOT, "together(1," + minute + ")", "OUTSIDE");
        }
    }

    private static void tell() {
        for (String pot : new String[] {"-1", "3", "4", "2147483647", "-2147483648"}) {
            refused(HOT, "tell(" + pot + ",100)", "UNKNOWN");
            refused(HOT, "tell(" + pot + ",49)", "UNKNOWN");
            refused(TOLD_ALL, "tell(" + pot + ",100)", "UNKNOWN");
            refused(TOLD_ALL, "tell(" + pot + ",200)", "UNKNOWN");
        }
        refused(NEW, "tell(0,100)", "UNKNOWN");
        refused(NEW, "tell(0,49)", "UNKNOWN");
        for (String out : new String[] {"49", "200", "-1", "2147483647", "-2147483648"}) {
            // Pot 1 boils; where all is told, pot 2 does not boil, either.
            refused(HOT, "tell(1," + out + ")", "OUTSIDE");
            refused(HOT, "tell(0," + out + ")", "OUTSIDE");
            refused(TOLD_ALL, "tell(1," + out + ")", "OUTSIDE");
            refused(TOLD_ALL, "tell(2," + out + ")", "OUTSIDE");
        }
        refused(COLD, "tell(0,100)", "STATE");
        refused(HOT, "tell(0,50)", "STATE");
        refused(HOT, "tell(2,199)", "STATE");
        refused(TOLD_ALL, "tell(2,100)", "STATE");
        refused(TOLD_ALL, "tell(0,50)", "FULL");
        refused(TOLD_ALL, "tell(1,199)", "FULL");
        refused(TOLD_ALL + " wind(3)", "tell(1,100)", "FULL");
    }

    private static void woundAndEvenings() {
        for (String what : new String[] {"-1", "2", "2147483647", "-2147483648"}) {
            refused(NEW, "wound(" + what + ")", "OUTSIDE");
            refused(HOT, "wound(" + what + ")", "OUTSIDE");
        }
        refused(NEW, "wound(0)", "STATE");
        refused(NEW, "wound(1)", "STATE");
        String[] outside = {
            "0,0,0", "31,0,0", "-1,0,0", "2147483647,0,0", "-2147483648,0,0", "1,-1,0", "30,-2147483648,0", "1,0,-1",
            "1,0,3",
            "1,0,2147483647", "1,0,-2147483648", "0,-1,3", "31,-1,-1"};
        for (String numbers : outside) {
            refused(NEW, "evenings(" + numbers + ")", "OUTSIDE");
            refused(HOT, "evenings(" + numbers + ")", "OUTSIDE");
        }
        refused(NEW, "evenings(1,0,0)", "STATE");
        refused(NEW, "evenings(30,2147483647,2)", "STATE");
    }

    private static void imageRestoreCount() {
        refused(NEW, "image()", "STATE");
        refused("<p01,e02;601>", "image()", "STATE");
        refused(NEW, "restore()", "STATE");
        refused(COLD + " boil(0) wind(9)", "restore()", "STATE");
        refused(ANOTHER, "restore()", "STATE");
        for (String what : new String[] {"-1", "11", "2147483647", "-2147483648"}) {
            refused(NEW, "count(" + what + ")", "OUTSIDE");
            refused(HOT, "count(" + what + ")", "OUTSIDE");
        }
    }

    private static void allAsTold() {
        Set<String> told = new TreeSet<>(Set.of(TOLD));
        if (!SEEN.equals(told)) {
            Asked.wrong("the refusals seen are not those that the document tells: " + SEEN);
        }
    }

    /** Any of these calls, in any of these states: where it is refused, it changes nothing. */
    private static void everyStateWithEveryCall() {
        for (String state : STATES) {
            for (String call : new TreeSet<>(CALLS)) {
                OneTimer asked = Script.run("state", state);
                long answer = Script.ask(asked, call);
                if (answer <= Script.number("UNKNOWN") && answer >= Script.number("FULL")) {
                    same(state + " | " + call, asked, Script.run("state", state));
                }
            }
        }
    }
}

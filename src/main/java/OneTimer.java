/** One timer for two to four pots; README.md says how to use it. */
public final class OneTimer {
    public static final int NONE = -1, UNKNOWN = -101, OUTSIDE = -102, STATE = -103, FULL = -104;

    private static final int MOST_POTS = 4;
    private static final int MOST_SPRING = 60;
    private static final int LAST_MINUTE = 999;
    private static final int LAST_TOGETHER = 1200;
    private static final int MOST_PLANS = 20;
    private static final int MOST_TIMES = 30;
    private static final int LEAST_OUT = 50;
    private static final int MOST_OUT = 199;
    private static final int GOOD = 100;
    private static final int LAST_KIND = 4;
    private static final int LAST_ABOUT = 7;
    private static final int LAST_COUNT = 10;
    private static final int DIGEST_MINUTE = 60;

    private final Page page;
    private final Pot[] pots;
    private final Told told;
    private final Told keptTold;
    private final Planner planner;
    private final Draws draws;
    private int potCount;
    private int spring;
    private int hands;
    private int minute;
    private int free;
    private int windings;
    private boolean hasImage;
    private int keptMinute;
    private int keptFree;
    private int keptWindings;
    private int kitchensRead;
    private int plansDone;

    public OneTimer() {
        page = new Page();
        pots = new Pot[MOST_POTS];
        told = new Told();
        keptTold = new Told();
        planner = new Planner();
        draws = new Draws();
    }

    // ---- the kitchen

    public int letter(int code) {
        if (code < 32 || code > 126) {
            return OUTSIDE;
        }
        return page.write(code) ? page.size : FULL;
    }

    public int blank() {
        int had = page.size;
        page.size = 0;
        return had;
    }

    public int fault() {
        return page.faultPlace();
    }

    public int kitchen() {
        if (!page.isKitchen()) {
            return STATE;
        }
        readPots();
        spring = page.springTold();
        hands = page.handsTold();
        page.size = 0;
        startEvening();
        kitchensRead++;
        return potCount;
    }

    private void readPots() {
        potCount = Math.min(page.potsTold(), MOST_POTS);
        for (int pot = 0; pot < pots.length; pot++) {
            pots[pot] = pot < potCount ? newPot(page.kindTold(pot), page.wantsTold(pot)) : null;
        }
    }

    private void startEvening() {
        minute = 0;
        free = hands;
        windings = 0;
        told.size = 0;
        hasImage = false;
    }

    private static Pot newPot(int kind, int wants) {
        switch (kind) {
            case 1: return new Eggs(wants);
            case 2: return new Rice(wants);
            case 3: return new Stew(wants);
            case 4: return new Beans(wants);
            default: return new Pot(wants);
        }
    }

    private boolean hasKitchen() {
        return potCount > 0;
    }

    /** The pot of this number; null where the number names nothing. */
    private Pot potAt(int pot) {
        if (pot < 0 || pot >= potCount || pot >= pots.length) {
            return null;
        }
        return pots[pot];
    }

    // ---- pots

    public int about(int pot, int what) {
        Pot it = potAt(pot);
        if (it == null) {
            return UNKNOWN;
        }
        switch (what) {
            case 0: return it.kind();
            case 1: return it.wants;
            case 2: return it.keeps();
            case 3: return it.since;
            case 4: return it.boils() ? it.due() : NONE;
            case 5: return it.boils() ? it.outAt(minute) : NONE;
            case 6: return it.timesTaken;
            case 7: return it.lastOut;
            default: return OUTSIDE;
        }
    }

    public int as(int pot, int kind) {
        Pot it = potAt(pot);
        if (it == null) {
            return UNKNOWN;
        }
        if (kind < 0 || kind > LAST_KIND) {
            return OUTSIDE;
        }
        return isOfKind(it, kind) ? pot : NONE;
    }

    private static boolean isOfKind(Pot it, int kind) {
        switch (kind) {
            case 1: return it instanceof Eggs;
            case 2: return it instanceof Rice;
            case 3: return it instanceof Stew;
            case 4: return it instanceof Beans;
            default: return true;
        }
    }

    public int boil(int pot) {
        Pot it = potAt(pot);
        if (it == null) {
            return UNKNOWN;
        }
        if (it.boils()) {
            return STATE;
        }
        it.since = minute;
        return it.due();
    }

    public int wind(int minutes) {
        // Without a kitchen no spring is known, so only what no spring could do is outside.
        if (minutes < 1 || minutes > (hasKitchen() ? spring : MOST_SPRING)) {
            return OUTSIDE;
        }
        if (!hasKitchen() || minute + minutes > LAST_MINUTE) {
            return STATE;
        }
        minute += minutes;
        free = hands;
        windings++;
        return minute;
    }

    public int take(int pot) {
        Pot it = potAt(pot);
        if (it == null) {
            return UNKNOWN;
        }
        if (!it.boils() || free < 1) {
            return STATE;
        }
        free--;
        it.comeOut(minute);
        return it.lastOut;
    }

    // ---- what would be

    public int plan(int what) {
        if (what < 0 || what > 1) {
            return OUTSIDE;
        }
        if (!hasKitchen() || plansDone >= MOST_PLANS) {
            return STATE;
        }
        plansDone++;
        planner.begin(spring, hands, free);
        for (int pot = 0; pot < potCount; pot++) {
            Pot it = potAt(pot);
            if (it != null && it.boils()) {
                planner.add(it.due() - minute, it.keeps());
            }
        }
        planner.fill();
        return what == 0 ? planner.howFew() : planner.first();
    }

    public int sure(int pot, int minutes) {
        Pot it = potAt(pot);
        if (it == null) {
            return UNKNOWN;
        }
        if (minutes < 1 || minutes > spring) {
            return OUTSIDE;
        }
        return it.boils() ? it.sureAt(minute + minutes) : STATE;
    }

    public int best(int pot) {
        Pot it = potAt(pot);
        if (it == null) {
            return UNKNOWN;
        }
        return it.boils() ? bestWinding(it) : STATE;
    }

    private int bestWinding(Pot it) {
        int found = 1;
        int most = it.sureAt(minute + 1);
        for (int winding = 2; winding <= spring; winding++) {
            int by = it.sureAt(minute + winding);
            if (by > most) {
                most = by;
                found = winding;
            }
        }
        return found;
    }

    public int together(int pot, int minute) {
        Pot it = potAt(pot);
        if (it == null) {
            return UNKNOWN;
        }
        if (minute < 0 || minute > LAST_TOGETHER) {
            return OUTSIDE;
        }
        int from = minute - it.wants;
        return from >= this.minute ? from : NONE;
    }

    // ---- what is told

    public int tell(int pot, int out) {
        Pot it = potAt(pot);
        if (it == null) {
            return UNKNOWN;
        }
        if (out < LEAST_OUT || out > MOST_OUT) {
            return OUTSIDE;
        }
        if (!it.boils()) {
            return STATE;
        }
        return told.add(it.due() - minute, it.keeps(), out) ? told.size : FULL;
    }

    public int forget() {
        int was = told.size;
        told.size = 0;
        return was;
    }

    public int wound(int what) {
        if (what < 0 || what > 1) {
            return OUTSIDE;
        }
        if (!hasKitchen()) {
            return STATE;
        }
        return what == 0 ? windingsThatFit() : leastThatFits();
    }

    private int windingsThatFit() {
        int fitting = 0;
        for (int winding = 1; winding <= spring; winding++) {
            if (told.fits(winding)) {
                fitting++;
            }
        }
        return fitting;
    }

    private int leastThatFits() {
        for (int winding = 1; winding <= spring; winding++) {
            if (told.fits(winding)) {
                return winding;
            }
        }
        return NONE;
    }

    public int evenings(int times, int seed, int what) {
        if (times < 1 || times > MOST_TIMES || seed < 0 || what < 0 || what > 2) {
            return OUTSIDE;
        }
        if (!hasKitchen()) {
            return STATE;
        }
        draws.seed = seed;
        int good = 0;
        int ruined = 0;
        int passed = 0;
        int takenPots = 0;
        for (int time = 0; time < times; time++) {
            passed += 1 + draws.next(spring);
            int pot = draws.next(potCount);
            Pot it = potAt(pot);
            if (it != null && (takenPots & (1 << pot)) == 0) {
                takenPots |= 1 << pot;
                int out = outBy(passed - it.wants, it.keeps());
                good += out == GOOD ? 1 : 0;
                ruined += out > GOOD ? 1 : 0;
            }
        }
        return what == 0 ? good : what == 1 ? ruined : draws.seed;
    }

    // ---- what is told of all

    public int image() {
        if (!hasKitchen()) {
            return STATE;
        }
        hasImage = true;
        keptMinute = minute;
        keptFree = free;
        keptWindings = windings;
        keptTold.copyFrom(told);
        for (int pot = 0; pot < potCount; pot++) {
            Pot it = potAt(pot);
            if (it != null) {
                it.keepImage();
            }
        }
        return minute;
    }

    public int restore() {
        if (!hasImage) {
            return STATE;
        }
        minute = keptMinute;
        free = keptFree;
        windings = keptWindings;
        told.copyFrom(keptTold);
        for (int pot = 0; pot < potCount; pot++) {
            Pot it = potAt(pot);
            if (it != null) {
                it.goBack();
            }
        }
        return minute;
    }

    public int count(int what) {
        switch (what) {
            case 0: return potCount;
            case 1: return spring;
            case 2: return hands;
            case 3: return minute;
            case 4: return potsThatBoil();
            case 5: return free;
            case 6: return windings;
            case 7: return told.size;
            case 8: return page.size;
            case 9: return kitchensRead;
            case 10: return plansDone;
            default: return OUTSIDE;
        }
    }

    private int potsThatBoil() {
        int boiling = 0;
        for (int pot = 0; pot < potCount; pot++) {
            Pot it = potAt(pot);
            if (it != null && it.boils()) {
                boiling++;
            }
        }
        return boiling;
    }

    public long digest() {
        long h = 929L;
        for (int pot = 0; pot < potCount; pot++) {
            h = digestOfPot(h, pot);
        }
        if (hasKitchen()) {
            h = 31L * h + wound(0);
            h = 31L * h + wound(1);
        }
        for (int place = 0; place < page.size; place++) {
            h = 31L * h + page.codeAt(place);
        }
        for (int what = 0; what <= LAST_COUNT; what++) {
            h = 31L * h + count(what);
        }
        return h;
    }

    private long digestOfPot(long before, int pot) {
        long h = before;
        for (int what = 0; what <= LAST_ABOUT; what++) {
            h = 31L * h + about(pot, what);
        }
        Pot it = potAt(pot);
        h = 31L * h + (it != null && it.boils() ? bestWinding(it) : 0);
        return 31L * h + together(pot, DIGEST_MINUTE);
    }

    /** How one comes out that is taken so many minutes behind its being due (below 0: ahead of it). */
    private static int outBy(int late, int keeps) {
        if (late < 0) {
            return GOOD + late;
        }
        return late <= keeps ? GOOD : GOOD + late - keeps;
    }

    /** A pot of no other kind, and what all kinds share. */
    private static class Pot {
        final int wants;
        int since = NONE;
        int timesTaken;
        int lastOut = NONE;
        int keptSince = NONE;
        int keptTimesTaken;
        int keptLastOut = NONE;

        Pot(int wants) {
            this.wants = wants;
        }

        int kind() {
            return 0;
        }

        int keeps() {
            return 0;
        }

        final boolean boils() {
            return since != NONE;
        }

        final int due() {
            return since + wants;
        }

        final int outAt(int when) {
            return outBy(when - due(), keeps());
        }

        final void comeOut(int when) {
            lastOut = outAt(when);
            timesTaken++;
            since = NONE;
        }

        /** Of twenty rings meant for this minute, how many find it good. */
        final int sureAt(int when) {
            int by = outAt(when) == GOOD ? 18 : 0;
            by += outAt(when - 1) == GOOD ? 1 : 0;
            by += outAt(when + 1) == GOOD ? 1 : 0;
            return by;
        }

        final void keepImage() {
            keptSince = since;
            keptTimesTaken = timesTaken;
            keptLastOut = lastOut;
        }

        final void goBack() {
            since = keptSince;
            timesTaken = keptTimesTaken;
            lastOut = keptLastOut;
        }
    }

    private static final class Eggs extends Pot {
        Eggs(int wants) {
            super(wants);
        }

        int kind() {
            return 1;
        }

        int keeps() {
            return 1;
        }
    }

    private static class Rice extends Pot {
        Rice(int wants) {
            super(wants);
        }

        int kind() {
            return 2;
        }

        int keeps() {
            return 3;
        }
    }

    private static final class Stew extends Pot {
        Stew(int wants) {
            super(wants);
        }

        int kind() {
            return 3;
        }

        int keeps() {
            return 9;
        }
    }

    private static final class Beans extends Rice {
        Beans(int wants) {
            super(wants);
        }

        int kind() {
            return 4;
        }

        int keeps() {
            return 2 * super.keeps();
        }
    }

    /** The page: its letters, and how far they are a kitchen's. */
    private static final class Page {
        private static final int MOST_LETTERS = 21;
        // A pot and the sign behind it take four places: the second pot's sign is at 7, the fourth's at 15;
        // ';' and what comes behind it take four, too.
        private static final int PLACES_A_POT = 4;
        private static final int FIRST_END = 7;
        private static final int LAST_END = 15;
        private static final int PLACES_OF_END = 4;

        private final int[] letters = new int[MOST_LETTERS];
        int size;

        boolean write(int code) {
            if (size < 0 || size >= letters.length) {
                return false;
            }
            letters[size] = code;
            size++;
            return true;
        }

        int codeAt(int place) {
            return place >= 0 && place < size && place < letters.length ? letters[place] : NONE;
        }

        int faultPlace() {
            int end = NONE;
            for (int place = 0; place < size; place++) {
                boolean fits = end == NONE ? fitsPots(place) : fitsEnd(place, place - end);
                if (!fits) {
                    return place;
                }
                if (codeAt(place) == ';') {
                    end = place;
                }
            }
            return size;
        }

        private boolean fitsPots(int place) {
            int code = codeAt(place);
            switch (place % PLACES_A_POT) {
                case 0: return kindOf(code) != NONE;
                case 1: return code >= '0' && code <= '4';
                case 2: return fitsSecondDigit(codeAt(place - 1), code, '4');
                default: return code == ',' && place < LAST_END || code == ';' && place >= FIRST_END;
            }
        }

        private boolean fitsEnd(int place, int behind) {
            int code = codeAt(place);
            switch (behind) {
                case 1: return code >= '0' && code <= '6';
                case 2: return fitsSecondDigit(codeAt(place - 1), code, '6');
                case 3: return code >= '1' && code <= '4';
                default: return false;
            }
        }

        /** Two digits go from 01 to the highest first digit and 0. */
        private static boolean fitsSecondDigit(int first, int code, int highest) {
            if (first == highest) {
                return code == '0';
            }
            return code >= (first == '0' ? '1' : '0') && code <= '9';
        }

        private static int kindOf(int code) {
            switch (code) {
                case 'p': return 0;
                case 'e': return 1;
                case 'r': return 2;
                case 's': return 3;
                case 'b': return 4;
                default: return NONE;
            }
        }

        boolean isKitchen() {
            return codeAt(size - PLACES_OF_END) == ';' && faultPlace() == size;
        }

        int potsTold() {
            return size / PLACES_A_POT;
        }

        int kindTold(int pot) {
            return kindOf(codeAt(pot * PLACES_A_POT));
        }

        int wantsTold(int pot) {
            return twoDigits(pot * PLACES_A_POT + 1);
        }

        int springTold() {
            return twoDigits(size - 3);
        }

        int handsTold() {
            return codeAt(size - 1) - '0';
        }

        private int twoDigits(int place) {
            return 10 * (codeAt(place) - '0') + codeAt(place + 1) - '0';
        }
    }

    /** What is told, each by how long it was until due as it was told. */
    private static final class Told {
        private static final int MOST_TOLD = 6;

        private final int[] untilDue = new int[MOST_TOLD];
        private final int[] keeps = new int[MOST_TOLD];
        private final int[] outs = new int[MOST_TOLD];
        int size;

        boolean add(int minutesUntilDue, int keptFor, int out) {
            if (size < 0 || size >= MOST_TOLD) {
                return false;
            }
            untilDue[size] = minutesUntilDue;
            keeps[size] = keptFor;
            outs[size] = out;
            size++;
            return true;
        }

        boolean fits(int winding) {
            for (int i = 0; i < size && i < MOST_TOLD; i++) {
                if (outBy(winding - untilDue[i], keeps[i]) != outs[i]) {
                    return false;
                }
            }
            return true;
        }

        void copyFrom(Told other) {
            for (int i = 0; i < MOST_TOLD; i++) {
                untilDue[i] = other.untilDue[i];
                keeps[i] = other.keeps[i];
                outs[i] = other.outs[i];
            }
            size = other.size;
        }
    }

    /** Draws by a seed. */
    private static final class Draws {
        int seed;

        int next(int of) {
            seed = (int) ((1103515245L * seed + 12345L) & 0x7fffffffL);
            return of > 0 ? (seed / 65536) % of : 0;
        }
    }

    /**
     * By how few windings all that boil come out good. For each minute from now, the last first, and each set of
     * pots still on (a bit a pot), it holds how many windings are needed if the timer rings then.
     */
    private static final class Planner {
        private static final int REACH = 120;
        private static final int SETS = 1 << MOST_POTS;
        private static final int NEVER = 1000;

        private final int[] fewest = new int[(REACH + 1) * SETS];
        private final int[] afterTaking = new int[SETS];
        private final int[] opens = new int[MOST_POTS];
        private final int[] closes = new int[MOST_POTS];
        private int size;
        private int spring;
        private int hands;
        private int freeNow;
        private int last;

        void begin(int springNow, int handsInAll, int handsFree) {
            size = 0;
            last = 0;
            spring = springNow;
            hands = handsInAll;
            freeNow = handsFree;
        }

        void add(int untilDue, int keeps) {
            if (size < 0 || size >= MOST_POTS) {
                return;
            }
            opens[size] = untilDue;
            closes[size] = untilDue + keeps;
            // Behind the last minute at which one is good no ring helps.
            last = Math.min(REACH, Math.max(last, closes[size]));
            size++;
        }

        void fill() {
            for (int at = last; at >= 0; at--) {
                fillMinute(at);
            }
        }

        private int allPots() {
            return (1 << size) - 1;
        }

        private static boolean isSet(int left) {
            return left >= 0 && left < SETS;
        }

        private static boolean isInRow(int at, int left) {
            return at >= 0 && at <= REACH && isSet(left);
        }

        private int fewestAt(int at, int left) {
            return isInRow(at, left) ? fewest[at * SETS + left] : NEVER;
        }

        private int fewestAfterTaking(int left) {
            return isSet(left) ? afterTaking[left] : NEVER;
        }

        private void fillMinute(int at) {
            int all = allPots();
            int good = goodAt(at);
            for (int left = 0; left <= all && isSet(left); left++) {
                afterTaking[left] = byWinding(at, left);
            }
            for (int left = 0; left <= all && isInRow(at, left); left++) {
                fewest[at * SETS + left] = byTaking(left, left & good, at == 0 ? freeNow : hands);
            }
        }

        private int goodAt(int at) {
            int good = 0;
            for (int i = 0; i < size && i < MOST_POTS; i++) {
                if (opens[i] <= at && at <= closes[i]) {
                    good |= 1 << i;
                }
            }
            return good;
        }

        private int byWinding(int at, int left) {
            if (left == 0) {
                return 0;
            }
            int few = NEVER;
            for (int ring = at + 1; ring <= at + spring && ring <= last; ring++) {
                few = Math.min(few, fewestAt(ring, left));
            }
            return few == NEVER ? NEVER : few + 1;
        }

        private int byTaking(int left, int good, int free) {
            int few = NEVER;
            for (int takes = 0; takes <= good; takes++) {
                if (canTake(takes, good, free)) {
                    few = Math.min(few, fewestAfterTaking(left & ~takes));
                }
            }
            return few;
        }

        private static boolean canTake(int takes, int good, int free) {
            return (takes & ~good) == 0 && Integer.bitCount(takes) <= free;
        }

        int howFew() {
            int few = fewestAt(0, allPots());
            return few == NEVER ? NONE : few;
        }

        int first() {
            int few = howFew();
            if (few <= 0) {
                return NONE;
            }
            for (int ring = 1; ring <= spring && ring <= last; ring++) {
                if (leadsOn(ring, few - 1)) {
                    return ring;
                }
            }
            return NONE;
        }

        private boolean leadsOn(int ring, int few) {
            int good = goodAt(0);
            for (int takes = 0; takes <= good; takes++) {
                if (canTake(takes, good, freeNow) && fewestAt(ring, allPots() & ~takes) == few) {
                    return true;
                }
            }
            return false;
        }
    }
}

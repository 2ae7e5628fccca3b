import java.math.BigInteger;
import java.util.ArrayList;
import java.util.HashMap;
import java.util.List;
import java.util.Map;
import java.util.Random;
import java.util.regex.Matcher;
import java.util.regex.Pattern;

/** Runs by fixed seeds, each call asked of the class and of a plain model written by other means than the class. */
public final class ModelTests {
    private static final int NONE = -1, UNKNOWN = -101, OUTSIDE = -102, STATE = -103, FULL = -104;
    private static final int RUNS = 3000;
    private static final int CALLS = 512;
    private static final String TWO = "(0[1-9]|[1-3][0-9]|40)";
    private static final Pattern KITCHEN =
        Pattern.compile("[persb]" + TWO + "(,[persb]" + TWO + "){1,3};(0[1-9]|[1-5][0-9]|60)[1-4]");
    private static final int[] KEEPS = {0, 1, 3, 9, 6};

    public static void main(String[] args) {
        int wrong = 0;
        for (int run = 0; run < RUNS && wrong < 20; run++) {
            wrong += run(run);
        }
        System.out.println(RUNS + " runs of " + CALLS + " calls, " + wrong + " answers are not as due");
        if (wrong != 0) {
            System.exit(1);
        }
    }

    private static int run(int seed) {
        Random random = new Random(seed);
        OneTimer x = new OneTimer();
        Model m = new Model();
        List<int[]> ahead = new ArrayList<>();
        for (int n = 0; n < CALLS; n++) {
            if (ahead.isEmpty()) {
                choose(random, m, ahead);
            }
            int[] call = ahead.remove(0);
            long got = ask(x, call);
            long want = answer(m, call);
            if (got != want) {
                System.out.println("run " + seed + ", call " + n + ": " + java.util.Arrays.toString(call)
                    + " answered " + got + ", due is " + want);
                return 1;
            }
        }
        return 0;
    }

    /** Puts the next calls behind the list: one call, or a kitchen's letters and the reading of them. */
    private static void choose(Random r, Model m, List<int[]> ahead) {
        int most = m.pots.isEmpty() ? 3 : 60;
        if (r.nextInt(most) == 0) {
            ahead.add(new int[] {1, 0, 0, 0});
            String text = text(r);
            for (int i = 0; i < text.length(); i++) {
                ahead.add(new int[] {0, text.charAt(i), 0, 0});
            }
            ahead.add(new int[] {2, 0, 0, 0});
            ahead.add(new int[] {3, 0, 0, 0});
            return;
        }
        int pot = r.nextInt(12) == 0 ? edge(r, 0, 4) : r.nextInt(Math.max(1, m.pots.length()));
        int spring = m.pots.isEmpty() ? 60 : m.spring;
        switch (r.nextInt(21)) {
            case 0: ahead.add(new int[] {0, r.nextBoolean() ? "persb,;0123456789".charAt(r.nextInt(17)) : edge(r, 32, 126), 0, 0}); break;
            case 1: ahead.add(new int[] {r.nextInt(4), 'p', 0, 0}); break;
            case 2: case 3: ahead.add(new int[] {4, pot, edge(r, 0, 7), 0}); break;
            case 4: ahead.add(new int[] {5, pot, edge(r, 0, 4), 0}); break;
            case 5: case 6: case 7: ahead.add(new int[] {6, pot, 0, 0}); break;
            case 8: ahead.add(new int[] {7, edge(r, 1, spring), 0, 0}); break;
            case 9: ahead.add(new int[] {7, 1 + r.nextInt(Math.min(spring, 9)), 0, 0}); break;
            case 10: ahead.add(new int[] {8, pot, 0, 0}); break;
            case 11: ahead.add(new int[] {9, edge(r, 0, 1), 0, 0}); break;
            case 12: ahead.add(new int[] {10, pot, edge(r, 1, spring), 0}); break;
            case 13: ahead.add(new int[] {11, pot, 0, 0}); break;
            case 14: ahead.add(new int[] {12, pot, r.nextBoolean() ? edge(r, 0, 1200) : m.minute + r.nextInt(50), 0}); break;
            case 15: ahead.add(new int[] {13, pot, r.nextBoolean() ? edge(r, 50, 199) : 90 + r.nextInt(20), 0}); break;
            case 16: ahead.add(new int[] {r.nextInt(3) == 0 ? 14 : 15, edge(r, 0, 1), 0, 0}); break;
            case 17: ahead.add(new int[] {16, edge(r, 1, 30), r.nextInt(8) == 0 ? -1 - r.nextInt(9) : r.nextInt() & 0x7fffffff, edge(r, 0, 2)}); break;
            case 18: ahead.add(new int[] {r.nextBoolean() ? 17 : 18, 0, 0, 0}); break;
            case 19: ahead.add(new int[] {19, edge(r, 0, 10), 0, 0}); break;
            default: ahead.add(new int[] {20, 0, 0, 0}); break;
        }
    }

    /** Mostly within the bounds, at times just outside or far outside. */
    private static int edge(Random r, int least, int most) {
        switch (r.nextInt(24)) {
            case 0: return least - 1;
            case 1: return most + 1;
            case 2: return r.nextInt();
            case 3: return least;
            case 4: return most;
            default: return least + r.nextInt(most - least + 1);
        }
    }

    private static String text(Random r) {
        StringBuilder text = new StringBuilder();
        int pots = 2 + r.nextInt(3);
        int longest = r.nextInt(3) == 0 ? 40 : 12;
        for (int pot = 0; pot < pots; pot++) {
            text.append(pot == 0 ? "" : ",").append("persb".charAt(r.nextInt(5))).append(two(1 + r.nextInt(longest)));
        }
        int spring = r.nextInt(3) == 0 ? 1 + r.nextInt(4) : 1 + r.nextInt(60);
        text.append(';').append(two(spring)).append(1 + r.nextInt(4));
        if (r.nextInt(6) == 0) {
            text.setCharAt(r.nextInt(text.length()), "persb,;0123456789x ".charAt(r.nextInt(19)));
        }
        if (r.nextInt(20) == 0) {
            text.setLength(r.nextInt(text.length()));
        }
        return text.toString();
    }

    private static String two(int number) {
        return String.format("%02d", number);
    }

    private static long ask(OneTimer x, int[] c) {
        switch (c[0]) {
            case 0: return x.letter(c[1]);
            case 1: return x.blank();
            case 2: return x.fault();
            case 3: return x.kitchen();
            case 4: return x.about(c[1], c[2]);
            case 5: return x.as(c[1], c[2]);
            case 6: return x.boil(c[1]);
            case 7: return x.wind(c[1]);
            case 8: return x.take(c[1]);
            case 9: return x.plan(c[1]);
            case 10: return x.sure(c[1], c[2]);
            case 11: return x.best(c[1]);
            case 12: return x.together(c[1], c[2]);
            case 13: return x.tell(c[1], c[2]);
            case 14: return x.forget();
            case 15: return x.wound(c[1]);
            case 16: return x.evenings(c[1], c[2], c[3]);
            case 17: return x.image();
            case 18: return x.restore();
            case 19: return x.count(c[1]);
            default: return x.digest();
        }
    }

    private static long answer(Model m, int[] c) {
        switch (c[0]) {
            case 0: return m.letter(c[1]);
            case 1: return m.blank();
            case 2: return m.fault();
            case 3: return m.kitchen();
            case 4: return m.about(c[1], c[2]);
            case 5: return m.as(c[1], c[2]);
            case 6: return m.boil(c[1]);
            case 7: return m.wind(c[1]);
            case 8: return m.take(c[1]);
            case 9: return m.plan(c[1]);
            case 10: return m.sure(c[1], c[2]);
            case 11: return m.best(c[1]);
            case 12: return m.together(c[1], c[2]);
            case 13: return m.tell(c[1], c[2]);
            case 14: return m.forget();
            case 15: return m.wound(c[1]);
            case 16: return m.evenings(c[1], c[2], c[3]);
            case 17: return m.image();
            case 18: return m.restore();
            case 19: return m.count(c[1]);
            default: return m.digest();
        }
    }

    private static final class Model {
        String page = "";
        String pots = "";
        int[] wants = {};
        int spring, hands, kitchens, plans;
        int minute, free, windings;
        Integer[] since = {};
        int[] taken = {};
        int[] last = {};
        List<int[]> told = new ArrayList<>();
        Object[] kept;

        boolean none(int pot) {
            return pot < 0 || pot >= pots.length();
        }

        int keeps(int pot) {
            return KEEPS["persb".indexOf(pots.charAt(pot))];
        }

        boolean good(int pot, int from, int at) {
            return at >= from + wants[pot] && at <= from + wants[pot] + keeps(pot);
        }

        int out(int pot, int from, int at) {
            if (good(pot, from, at)) {
                return 100;
            }
            int due = from + wants[pot];
            return at < due ? 100 - (due - at) : 100 + (at - (due + keeps(pot)));
        }

        int letter(int code) {
            if (code < 32 || code > 126) {
                return OUTSIDE;
            }
            if (page.length() == 21) {
                return FULL;
            }
            page += (char) code;
            return page.length();
        }

        int blank() {
            int had = page.length();
            page = "";
            return had;
        }

        int fault() {
            for (int n = 1; n <= page.length(); n++) {
                Matcher matcher = KITCHEN.matcher(page.substring(0, n));
                if (!matcher.matches() && !matcher.hitEnd()) {
                    return n - 1;
                }
            }
            return page.length();
        }

        int kitchen() {
            if (!KITCHEN.matcher(page).matches()) {
                return STATE;
            }
            String[] halves = page.split(";");
            String[] parts = halves[0].split(",");
            pots = "";
            wants = new int[parts.length];
            for (int pot = 0; pot < parts.length; pot++) {
                pots += parts[pot].charAt(0);
                wants[pot] = Integer.parseInt(parts[pot].substring(1));
            }
            spring = Integer.parseInt(halves[1].substring(0, 2));
            hands = Integer.parseInt(halves[1].substring(2));
            since = new Integer[parts.length];
            taken = new int[parts.length];
            last = new int[parts.length];
            java.util.Arrays.fill(last, NONE);
            minute = 0;
            free = hands;
            windings = 0;
            told = new ArrayList<>();
            kept = null;
            page = "";
            kitchens++;
            return parts.length;
        }

        int about(int pot, int what) {
            if (none(pot)) {
                return UNKNOWN;
            }
            if (what < 0 || what > 7) {
                return OUTSIDE;
            }
            Integer from = since[pot];
            int[] all = {
                "persb".indexOf(pots.charAt(pot)), wants[pot], keeps(pot),
                from == null ? NONE : from,
                from == null ? NONE : from + wants[pot],
                from == null ? NONE : out(pot, from, minute),
                taken[pot], last[pot]};
            return all[what];
        }

        int as(int pot, int kind) {
            if (none(pot)) {
                return UNKNOWN;
            }
            if (kind < 0 || kind > 4) {
                return OUTSIDE;
            }
            String[] are = {"persb", "e", "rb", "s", "b"};
            return are[kind].indexOf(pots.charAt(pot)) >= 0 ? pot : NONE;
        }

        int boil(int pot) {
            if (none(pot)) {
                return UNKNOWN;
            }
            if (since[pot] != null) {
                return STATE;
            }
            since[pot] = minute;
            return minute + wants[pot];
        }

        int wind(int minutes) {
            if (minutes < 1 || minutes > 60 || !pots.isEmpty() && minutes > spring) {
                return OUTSIDE;
            }
            if (pots.isEmpty() || minute + minutes >= 1000) {
                return STATE;
            }
            minute += minutes;
            free = hands;
            windings++;
            return minute;
        }

        int take(int pot) {
            if (none(pot)) {
                return UNKNOWN;
            }
            if (since[pot] == null || free == 0) {
                return STATE;
            }
            last[pot] = out(pot, since[pot], minute);
            taken[pot]++;
            since[pot] = null;
            free--;
            return last[pot];
        }

        int plan(int what) {
            if (what != 0 && what != 1) {
                return OUTSIDE;
            }
            if (pots.isEmpty() || plans == 20) {
                return STATE;
            }
            plans++;
            return search()[what];
        }

        /** Goes forward, winding by winding: each way to stand, with the least first winding that leads there. */
        int[] search() {
            int on = 0;
            for (int pot = 0; pot < pots.length(); pot++) {
                on |= since[pot] != null ? 1 << pot : 0;
            }
            Map<Integer, Integer> ways = new HashMap<>();
            takeSome(ways, 0, on, free, NONE);
            for (int few = 0; !ways.isEmpty(); few++) {
                int first = Integer.MAX_VALUE;
                for (Map.Entry<Integer, Integer> way : ways.entrySet()) {
                    if (way.getKey() % 16 == 0) {
                        first = Math.min(first, way.getValue());
                    }
                }
                if (first != Integer.MAX_VALUE) {
                    return new int[] {few, first};
                }
                Map<Integer, Integer> next = new HashMap<>();
                for (Map.Entry<Integer, Integer> way : ways.entrySet()) {
                    for (int winding = 1; winding <= spring; winding++) {
                        int at = way.getKey() / 16 + winding;
                        if (at <= 120) {
                            int first1 = few == 0 ? winding : way.getValue();
                            takeSome(next, at, way.getKey() % 16, hands, first1);
                        }
                    }
                }
                ways = next;
            }
            return new int[] {NONE, NONE};
        }

        void takeSome(Map<Integer, Integer> ways, int at, int on, int most, int first) {
            for (int pot = 0; pot < pots.length(); pot++) {
                // What is ruined stays so: no need to follow it.
                if ((on >> pot & 1) == 1 && out(pot, since[pot], minute + at) > 100) {
                    return;
                }
            }
            ways.merge(at * 16 + on, first, Math::min);
            for (int pot = 0; most > 0 && pot < pots.length(); pot++) {
                if ((on >> pot & 1) == 1 && good(pot, since[pot], minute + at)) {
                    takeSome(ways, at, on - (1 << pot), most - 1, first);
                }
            }
        }

        int sure(int pot, int minutes) {
            if (none(pot)) {
                return UNKNOWN;
            }
            if (minutes < 1 || minutes > spring) {
                return OUTSIDE;
            }
            if (since[pot] == null) {
                return STATE;
            }
            int by = 0;
            for (int time = 0; time < 20; time++) {
                int out = time == 0 ? -1 : time == 19 ? 1 : 0;
                by += good(pot, since[pot], minute + minutes + out) ? 1 : 0;
            }
            return by;
        }

        int best(int pot) {
            if (none(pot)) {
                return UNKNOWN;
            }
            if (since[pot] == null) {
                return STATE;
            }
            int found = spring;
            for (int winding = spring; winding >= 1; winding--) {
                found = sure(pot, winding) >= sure(pot, found) ? winding : found;
            }
            return found;
        }

        int together(int pot, int at) {
            if (none(pot)) {
                return UNKNOWN;
            }
            if (at < 0 || at > 1200) {
                return OUTSIDE;
            }
            return minute + wants[pot] > at ? NONE : at - wants[pot];
        }

        int tell(int pot, int out) {
            if (none(pot)) {
                return UNKNOWN;
            }
            if (out < 50 || out > 199) {
                return OUTSIDE;
            }
            if (since[pot] == null) {
                return STATE;
            }
            if (told.size() == 6) {
                return FULL;
            }
            told.add(new int[] {pot, since[pot], minute, out});
            return told.size();
        }

        int forget() {
            int was = told.size();
            told = new ArrayList<>();
            return was;
        }

        int wound(int what) {
            if (what != 0 && what != 1) {
                return OUTSIDE;
            }
            if (pots.isEmpty()) {
                return STATE;
            }
            List<Integer> can = new ArrayList<>();
            for (int winding = 1; winding <= spring; winding++) {
                boolean so = true;
                for (int[] one : told) {
                    so &= out(one[0], one[1], one[2] + winding) == one[3];
                }
                if (so) {
                    can.add(winding);
                }
            }
            return what == 0 ? can.size() : can.isEmpty() ? NONE : can.get(0);
        }

        int evenings(int times, int seed, int what) {
            if (times < 1 || times > 30 || seed < 0 || what < 0 || what > 2) {
                return OUTSIDE;
            }
            if (pots.isEmpty()) {
                return STATE;
            }
            BigInteger next = BigInteger.valueOf(seed);
            int at = minute;
            Map<Integer, Integer> outs = new HashMap<>();
            for (int time = 0; time < times; time++) {
                next = after(next);
                at += 1 + draw(next, spring);
                next = after(next);
                int pot = draw(next, pots.length());
                outs.putIfAbsent(pot, out(pot, minute, at));
            }
            int good = 0;
            int ruined = 0;
            for (int out : outs.values()) {
                good += out == 100 ? 1 : 0;
                ruined += out > 100 ? 1 : 0;
            }
            return what == 0 ? good : what == 1 ? ruined : next.intValueExact();
        }

        BigInteger after(BigInteger seed) {
            return seed.multiply(BigInteger.valueOf(1103515245)).add(BigInteger.valueOf(12345))
                .mod(BigInteger.TWO.pow(31));
        }

        int draw(BigInteger seed, int of) {
            return seed.divide(BigInteger.valueOf(65536)).mod(BigInteger.valueOf(of)).intValueExact();
        }

        int image() {
            if (pots.isEmpty()) {
                return STATE;
            }
            kept = new Object[] {
                minute, since.clone(), taken.clone(), last.clone(), free, windings, new ArrayList<>(told)};
            return minute;
        }

        @SuppressWarnings("unchecked")
        int restore() {
            if (kept == null) {
                return STATE;
            }
            minute = (Integer) kept[0];
            since = ((Integer[]) kept[1]).clone();
            taken = ((int[]) kept[2]).clone();
            last = ((int[]) kept[3]).clone();
            free = (Integer) kept[4];
            windings = (Integer) kept[5];
            told = new ArrayList<>((List<int[]>) kept[6]);
            return minute;
        }

        int count(int what) {
            int boiling = 0;
            for (Integer from : since) {
                boiling += from != null ? 1 : 0;
            }
            int[] all = {
                pots.length(), spring, hands, minute, boiling, free, windings, told.size(), page.length(), kitchens, plans};
            return what < 0 || what >= all.length ? OUTSIDE : all[what];
        }

        long digest() {
            List<Integer> numbers = new ArrayList<>();
            for (int pot = 0; pot < pots.length(); pot++) {
                for (int what = 0; what < 8; what++) {
                    numbers.add(about(pot, what));
                }
                numbers.add(since[pot] == null ? 0 : best(pot));
                numbers.add(together(pot, 60));
            }
            if (!pots.isEmpty()) {
                numbers.add(wound(0));
                numbers.add(wound(1));
            }
            page.chars().forEach(numbers::add);
            for (int what = 0; what <= 10; what++) {
                numbers.add(count(what));
            }
            BigInteger h = BigInteger.valueOf(929);
            for (int number : numbers) {
                h = h.multiply(BigInteger.valueOf(31)).add(BigInteger.valueOf(number));
            }
            return h.longValue();
        }
    }
}

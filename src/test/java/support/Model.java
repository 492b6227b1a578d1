package support;

import java.util.ArrayDeque;
import java.util.ArrayList;
import java.util.Deque;
import java.util.HashMap;
import java.util.HashSet;
import java.util.List;
import java.util.Map;
import java.util.Set;

/**
 * The document once more, by other means than the class under test: copies of all for every step,
 * texts as trees, and search through all there is. It says what is due where runs are drawn.
 */
public final class Model {
    private static final int NONE = -1;

    /** What STEPS take back. */
    private static final class State {
        int day;
        int hour;
        int x = 97;
        List<int[]> one = new ArrayList<>(); // left, place, indoors
        Map<Integer, Integer> owes = new HashMap<>(); // by 10 * who + whom
        List<int[]> book = new ArrayList<>();

        State copy() {
            State other = new State();
            other.day = day;
            other.hour = hour;
            other.x = x;
            for (int[] p : one) {
                other.one.add(p.clone());
            }
            other.owes.putAll(owes);
            other.book.addAll(book);
            return other;
        }

        int owes(int who, int whom) {
            return owes.getOrDefault(10 * who + whom, 0);
        }

        void owes(int who, int whom, int what) {
            owes.put(10 * who + whom, Math.min(9999, Math.max(0, what)));
        }

        int debts(int who) {
            int sum = 0;
            for (int i = 0; i < one.size(); i++) {
                sum += owes(who, i);
            }
            return sum;
        }

        int claims(int whom) {
            int sum = 0;
            for (int i = 0; i < one.size(); i++) {
                sum += owes(i, whom);
            }
            return sum;
        }

        boolean told(int who) {
            return who >= 0 && who < one.size();
        }

        boolean out(int who) {
            return told(who) && one.get(who)[2] == 0;
        }

        boolean meet(int who, int whom) {
            return who != whom && out(who) && out(whom) && one.get(who)[1] == one.get(whom)[1];
        }
    }

    private static final class All {
        State state = new State();
        Deque<State> steps = new ArrayDeque<>();
        List<int[]> people = new ArrayList<>(); // age, back, place
        List<Text> texts = new ArrayList<>();
        int ruling = NONE;
        Map<Integer, Integer> necks = new HashMap<>();

        All copy() {
            All other = new All();
            other.state = state.copy();
            for (State step : steps) {
                other.steps.addLast(step.copy());
            }
            other.people.addAll(people);
            other.texts.addAll(texts);
            other.ruling = ruling;
            other.necks.putAll(necks);
            return other;
        }
    }

    /** Whom a sum is asked of. */
    private static final class Asked {
        State state;
        List<int[]> people;
        int who;
        int whom;
        int given;
    }

    private interface Sum {
        int of(Asked asked);
    }

    private static final class Text {
        Map<String, Sum> laws = new HashMap<>();
        List<String> kinds = new ArrayList<>();
        List<int[]> numbers = new ArrayList<>();
    }

    private static final class Fault extends RuntimeException {
        final int kind;
        final int place;

        Fault(int kind, int place) {
            super(null, null, false, false);
            this.kind = kind;
            this.place = place;
        }
    }

    private All all = new All();
    private All image = new All();
    private StringBuilder tape = new StringBuilder();
    private int fault = NONE;
    private int faultAt = NONE;

    private void step() {
        all.steps.addLast(all.state.copy());
        if (all.steps.size() > 30) {
            all.steps.removeFirst();
        }
    }

    // ---- laws ----

    private Text ruling() {
        return all.ruling == NONE ? new Text() : all.texts.get(all.ruling);
    }

    private int law(Text text, State state, String name, int who, int whom, int given) {
        Sum sum = text.laws.get(name);
        int owes = state.owes(who, whom);
        if (sum == null) {
            switch (name) {
                case "size": return owes < 1 ? 1 : owes > 99 ? 99 : owes;
                // 9089 and 908 and 1 is 9998, 9090 and 909 and 1 is 10000.
                case "more": return given > 9089 ? 9999 : given + given / 10 + 1;
                case "late": return owes * 2 > 9999 ? 9999 : owes * 2;
                default: return 300;
            }
        }
        Asked asked = new Asked();
        asked.state = state;
        asked.people = all.people;
        asked.who = who;
        asked.whom = whom;
        asked.given = given;
        int value = sum.of(asked);
        int least = name.equals("size") ? 1 : 0;
        int most = name.equals("size") ? 99 : 9999;
        return value < least ? least : value > most ? most : value;
    }

    private boolean bows(State state, Text text, int who, int whom) {
        if (!state.meet(who, whom)) {
            return false;
        }
        int size = law(text, state, "size", who, whom, 0);
        if (state.one.get(who)[0] < size) {
            return false;
        }
        int owed = state.owes(who, whom);
        state.one.get(who)[0] -= size;
        state.owes(who, whom, owed - size);
        if (size > owed) {
            int more = law(text, state, "more", whom, who, size - owed);
            state.owes(whom, who, state.owes(whom, who) + more);
        }
        return true;
    }

    private int feasts(State state) {
        int sum = 0;
        for (int who = 0; who < state.one.size(); who++) {
            int best = who;
            for (int whom = state.one.size() - 1; whom >= 0; whom--) {
                if (state.owes(who, whom) >= state.owes(who, best)) {
                    best = whom;
                }
            }
            sum += state.owes(who, best);
            state.owes(who, best, 0);
        }
        return sum;
    }

    /** NONE: it can't pass; else how many are ruined. */
    private int passes(State state, Text text, List<Integer> ruined) {
        if (state.day == 9999 && state.hour == 9) {
            return NONE;
        }
        if (++state.hour < 10) {
            return 0;
        }
        state.hour = 0;
        state.day++;
        for (int who = 0; who < state.one.size(); who++) {
            for (int whom = 0; whom < state.one.size(); whom++) {
                if (state.owes(who, whom) > 0) {
                    state.owes(who, whom, law(text, state, "late", who, whom, 0));
                }
            }
        }
        int count = 0;
        for (int who = 0; who < state.one.size(); who++) {
            int[] p = state.one.get(who);
            p[0] = all.people.get(who)[1];
            if (p[2] > 0) {
                p[2]--;
            }
            int debts = state.debts(who);
            if (debts > law(text, state, "ruin", who, NONE, 0)) {
                for (int whom = 0; whom < state.one.size(); whom++) {
                    state.owes(who, whom, 0);
                }
                p[2] = 3;
                state.book.add(new int[] {state.day, who, debts});
                if (state.book.size() > 30) {
                    state.book.remove(0);
                }
                count++;
                ruined.add(who);
            }
        }
        return count;
    }

    private static boolean in(int value, int least, int most) {
        return value >= least && value <= most;
    }

    private boolean twoTold(int one, int other) {
        return one != other && all.state.told(one) && all.state.told(other);
    }

    // ---- the face ----

    public int person(int age, int back, int place) {
        if (!in(age, 0, 99) || !in(back, 0, 99) || !in(place, 0, 7) || all.people.size() == 7) {
            return NONE;
        }
        all.people.add(new int[] {age, back, place});
        all.state.one.add(new int[] {back, place, 0});
        return all.people.size() - 1;
    }

    public int bow(int one, int other) {
        State after = all.state.copy();
        if (!bows(after, ruling(), one, other)) {
            return NONE;
        }
        step();
        all.state = after;
        return after.one.get(one)[0];
    }

    public boolean owe(int one, int other, int what) {
        if (!twoTold(one, other) || !in(what, 0, 9999) || all.state.owes(one, other) == what) {
            return false;
        }
        step();
        all.state.owes(one, other, what);
        return true;
    }

    public int walk(int one, int way) {
        if (!all.state.out(one) || Math.abs(way) != 1) {
            return NONE;
        }
        step();
        int[] p = all.state.one.get(one);
        p[1] = (p[1] + way + 8) % 8;
        return p[1];
    }

    public int feast() {
        step();
        return feasts(all.state);
    }

    public int clear(int a, int b, int c) {
        State s = all.state;
        if (!s.meet(a, b) || !s.meet(b, c) || !s.meet(a, c)) {
            return NONE;
        }
        int[] three = {a, b, c, a};
        int least = Integer.MAX_VALUE;
        for (int i = 0; i < 3; i++) {
            least = Math.min(least, s.owes(three[i], three[i + 1]));
        }
        if (least == 0) {
            return NONE;
        }
        step();
        for (int i = 0; i < 3; i++) {
            s.owes(three[i], three[i + 1], s.owes(three[i], three[i + 1]) - least);
        }
        return least;
    }

    public int hour(int n) {
        if (!in(n, 1, 60) || all.state.day * 10 + all.state.hour + n > 99999) {
            return NONE;
        }
        int ruined = 0;
        for (int i = 0; i < n; i++) {
            step();
            ruined += passes(all.state, ruling(), new ArrayList<>());
        }
        return ruined;
    }

    private int draw(int by) {
        int drawn = all.state.x % by;
        all.state.x = (all.state.x * 299 + 199) % 30323;
        return drawn;
    }

    public int weeks(int seed, int n) {
        int count = all.people.size();
        if (!in(seed, 0, 9999) || !in(n, 1, 30) || count == 0) {
            return NONE;
        }
        step();
        all.state.x = seed * 2 + 97;
        for (int i = 0; i < n; i++) {
            int deed = draw(7);
            int one = draw(count);
            switch (deed) {
                case 0:
                case 1:
                case 2:
                    bows(all.state, ruling(), one, draw(count));
                    break;
                case 3:
                    int way = draw(2) == 1 ? 1 : 7;
                    if (all.state.out(one)) {
                        int[] p = all.state.one.get(one);
                        p[1] = (p[1] + way) % 8;
                    }
                    break;
                case 4:
                    if (draw(9) == 0) {
                        feasts(all.state);
                    }
                    break;
                default:
                    passes(all.state, ruling(), new ArrayList<>());
                    break;
            }
        }
        return all.state.day;
    }

    public int feed(int... fives) {
        if (tape.length() + 20 > 300) {
            return NONE;
        }
        for (int five : fives) {
            tape.append((char) (five >>> 24)).append((char) (five >>> 16 & 255));
            tape.append((char) (five >>> 8 & 255)).append((char) (five & 255));
        }
        return tape.length();
    }

    public int end(int n) {
        if (!in(n, 0, tape.length())) {
            return NONE;
        }
        tape.setLength(n);
        return n;
    }

    public int text() {
        if (all.texts.size() == 4) {
            return NONE;
        }
        String read = tape.toString();
        tape.setLength(0);
        try {
            all.texts.add(new Grammar(read).text());
            fault = 0;
            faultAt = NONE;
            return all.texts.size() - 1;
        } catch (Fault found) {
            fault = found.kind;
            faultAt = found.place;
            return NONE;
        }
    }

    public int fault(int what) {
        return what == 0 ? fault : what == 1 ? faultAt : NONE;
    }

    public boolean by(int text) {
        if (!in(text, NONE, all.texts.size() - 1)) {
            return false;
        }
        all.ruling = text;
        return true;
    }

    public int played(int text) {
        if (!in(text, 0, all.texts.size() - 1)) {
            return -2;
        }
        Text script = all.texts.get(text);
        for (int i = 0; i < script.kinds.size(); i++) {
            int[] n = script.numbers.get(i);
            boolean done;
            switch (script.kinds.get(i)) {
                case "one": done = person(n[0], n[1], n[2]) >= 0; break;
                case "bow": done = bow(n[0], n[1]) >= 0; break;
                case "owe": done = owe(n[0], n[1], n[2]); break;
                case "walk": done = walk(n[0], 1) >= 0; break;
                case "retreat": done = walk(n[0], -1) >= 0; break;
                case "clear": done = clear(n[0], n[1], n[2]) >= 0; break;
                case "feast": done = feast() >= 0; break;
                case "hour":
                    int passed = 0;
                    while (passed < n[0] && hour(1) >= 0) {
                        passed++;
                    }
                    done = passed == n[0];
                    break;
                default: done = true; break;
            }
            if (!done) {
                return i;
            }
        }
        return NONE;
    }

    public int undo() {
        if (all.steps.isEmpty()) {
            return NONE;
        }
        all.state = all.steps.removeLast();
        for (int i = all.state.one.size(); i < all.people.size(); i++) {
            int[] p = all.people.get(i);
            all.state.one.add(new int[] {p[1], p[2], 0});
        }
        return all.steps.size();
    }

    public int of(int one, int what) {
        if (!all.state.told(one) || !in(what, 0, 7)) {
            return NONE;
        }
        int[] p = all.people.get(one);
        int[] s = all.state.one.get(one);
        return new int[] {p[0], p[1], s[1], s[0], s[2], all.state.debts(one), all.state.claims(one),
            law(ruling(), all.state, "ruin", one, NONE, 0)}[what];
    }

    public int two(int one, int other, int what) {
        if (!twoTold(one, other) || !in(what, 0, 3)) {
            return NONE;
        }
        int owes = all.state.owes(one, other);
        int late = owes == 0 ? 0 : law(ruling(), all.state, "late", one, other, 0);
        int size = law(ruling(), all.state, "size", one, other, 0);
        return new int[] {owes, size, late, all.state.meet(one, other) ? 1 : 0}[what];
    }

    public int more(int one, int other, int given) {
        boolean so = twoTold(one, other) && in(given, 0, 9999);
        return so ? law(ruling(), all.state, "more", one, other, given) : NONE;
    }

    public int book(int i, int what) {
        if (i == NONE) {
            return all.state.book.size();
        }
        boolean so = in(i, 0, all.state.book.size() - 1) && in(what, 0, 2);
        return so ? all.state.book.get(i)[what] : -2;
    }

    private State ahead(int n, int text, List<Integer> ruined) {
        State state = all.state.copy();
        Text script = text == NONE ? new Text() : all.texts.get(text);
        for (int i = 0; i < n; i++) {
            passes(state, script, ruined);
        }
        return state;
    }

    public int foretold(int n, int one, int other) {
        boolean so = other == NONE ? all.state.told(one) : twoTold(one, other);
        if (!so || !in(n, 1, 60)) {
            return -2;
        }
        State then = ahead(n, all.ruling, new ArrayList<>());
        return other == NONE ? then.debts(one) : then.owes(one, other);
    }

    public int indoors(int n, int one) {
        if (!all.state.told(one) || !in(n, 1, 60)) {
            return -2;
        }
        return ahead(n, all.ruling, new ArrayList<>()).one.get(one)[2];
    }

    public int first(int n) {
        if (!in(n, 1, 60)) {
            return NONE;
        }
        List<Integer> ruined = new ArrayList<>();
        ahead(n, all.ruling, ruined);
        return ruined.isEmpty() ? NONE : ruined.get(0);
    }

    public int whose(int n) {
        if (!in(n, 1, 60)) {
            return NONE;
        }
        int best = NONE;
        int fewest = 9999;
        for (int text = all.texts.size() - 1; text >= 0; text--) {
            List<Integer> ruined = new ArrayList<>();
            ahead(n, text, ruined);
            if (ruined.size() <= fewest) {
                fewest = ruined.size();
                best = text;
            }
        }
        return best;
    }

    /** The steps, found breadth first over places and what has been reached of the wanted ones. */
    private List<Integer> errand(int one) {
        State s = all.state;
        Set<Integer> wanted = new HashSet<>();
        Set<Integer> others = new HashSet<>();
        for (int i = 0; i < s.one.size(); i++) {
            if (i != one && s.out(i)) {
                others.add(s.one.get(i)[1]);
                if (s.owes(one, i) > 0) {
                    wanted.add(s.one.get(i)[1]);
                }
            }
        }
        int from = s.one.get(one)[1];
        Set<Integer> left = new HashSet<>(wanted);
        left.remove(from);
        Map<String, Boolean> seen = new HashMap<>();
        Deque<Object[]> queue = new ArrayDeque<>();
        queue.add(new Object[] {from, left, new ArrayList<Integer>()});
        seen.put(from + " " + left, true);
        while (!queue.isEmpty()) {
            Object[] at = queue.removeFirst();
            @SuppressWarnings("unchecked")
            Set<Integer> missing = (Set<Integer>) at[1];
            @SuppressWarnings("unchecked")
            List<Integer> way = (List<Integer>) at[2];
            if (missing.isEmpty()) {
                return way;
            }
            for (int step : new int[] {1, -1}) {
                int place = ((Integer) at[0] + step + 8) % 8;
                if (others.contains(place) && !wanted.contains(place)) {
                    continue;
                }
                Set<Integer> rest = new HashSet<>(missing);
                rest.remove(place);
                if (seen.put(place + " " + rest, true) == null) {
                    List<Integer> longer = new ArrayList<>(way);
                    longer.add(step);
                    queue.addLast(new Object[] {place, rest, longer});
                }
            }
        }
        return null;
    }

    public int route(int one, int i) {
        if (!all.state.out(one)) {
            return -2;
        }
        List<Integer> way = errand(one);
        if (way == null) {
            return -2;
        }
        return i == NONE ? way.size() : in(i, 0, way.size() - 1) ? way.get(i) : -2;
    }

    /** The most even sets, by trying each of the others with the first one of a set. */
    private int parted(int people, int[] have) {
        if (people == 0) {
            return 0;
        }
        int lowest = Integer.lowestOneBit(people);
        int rest = people ^ lowest;
        int best = -99;
        for (int with = rest;; with = (with - 1) & rest) {
            int sum = 0;
            for (int i = 0; i < have.length; i++) {
                if (((with | lowest) >> i & 1) == 1) {
                    sum += have[i];
                }
            }
            if (sum == 0) {
                best = Math.max(best, 1 + parted(rest ^ with, have));
            }
            if (with == 0) {
                return best;
            }
        }
    }

    public int settled(boolean parts) {
        int count = all.people.size();
        int[] have = new int[count];
        for (int i = 0; i < count; i++) {
            have[i] = all.state.claims(i) - all.state.debts(i);
        }
        int sets = parted((1 << count) - 1, have);
        return parts ? sets : count - sets;
    }

    /** What a lane comes to from a step on: the step of the bow, what the first and second pay. */
    private static int[] laneFrom(int k, int n, int a, int b, int r, int c) {
        if (k == n) {
            return new int[] {n, c, c};
        }
        int[] waited = laneFrom(k + 1, n, a, b, r, c);
        int cost = a + k * b;
        int rest = Math.max(r - k * b, 0);
        if (k % 2 == 0) {
            return cost <= waited[1] ? new int[] {k, cost, rest} : waited;
        }
        return cost <= waited[2] ? new int[] {k, rest, cost} : waited;
    }

    public int lane(int n, int a, int b, int r, int c, int what) {
        if (!in(n, 1, 20) || !in(a, 0, 99) || !in(b, 0, 99) || !in(r, 0, 999) || !in(c, 0, 9999)
            || !in(what, 0, 2)) {
            return NONE;
        }
        return laneFrom(0, n, a, b, r, c)[what];
    }

    private int[] bestOrder;
    private int bestSum;

    private void orders(List<Integer> ahead, int sum) {
        int count = all.people.size();
        if (ahead.size() == count) {
            if (bestOrder == null || sum < bestSum) {
                bestSum = sum;
                bestOrder = ahead.stream().mapToInt(i -> i).toArray();
            }
            return;
        }
        for (int next = 0; next < count; next++) {
            if (!ahead.contains(next)) {
                int more = 0;
                for (int one : ahead) {
                    more += all.state.owes(one, next);
                }
                ahead.add(next);
                orders(ahead, sum + more);
                ahead.remove(ahead.size() - 1);
            }
        }
    }

    public int doors(int i) {
        bestOrder = null;
        orders(new ArrayList<>(), 0);
        return i == NONE ? bestSum : in(i, 0, bestOrder.length - 1) ? bestOrder[i] : NONE;
    }

    public boolean neck(int one, int bent) {
        if (!in(one, 0, Math.min(5, all.people.size()) - 1) || !in(bent, NONE, 999)) {
            return false;
        }
        if (bent == NONE) {
            all.necks.remove(one);
        } else {
            all.necks.put(one, bent);
        }
        return true;
    }

    private List<Set<Integer>> explanations() {
        List<Set<Integer>> found = new ArrayList<>();
        List<Integer> twos = new ArrayList<>();
        int count = Math.min(5, all.people.size());
        for (int one = 0; one < count; one++) {
            for (int other = one + 1; other < count; other++) {
                twos.add(10 * one + other);
            }
        }
        for (int bits = 0; bits < 1 << twos.size(); bits++) {
            int[] bent = new int[5];
            Set<Integer> set = new HashSet<>();
            for (int i = 0; i < twos.size(); i++) {
                if ((bits >> i & 1) == 1) {
                    int one = twos.get(i) / 10;
                    int other = twos.get(i) % 10;
                    set.add(twos.get(i));
                    bent[one] += all.state.owes(one, other);
                    bent[other] += all.state.owes(other, one);
                }
            }
            boolean so = true;
            for (Map.Entry<Integer, Integer> neck : all.necks.entrySet()) {
                so &= bent[neck.getKey()] == neck.getValue();
            }
            if (so) {
                found.add(set);
            }
        }
        return found;
    }

    public int explained() {
        return explanations().size();
    }

    private static int met(List<Set<Integer>> sets, int two) {
        int met = 0;
        for (Set<Integer> set : sets) {
            met += set.contains(two) ? 1 : 0;
        }
        return met;
    }

    public int sure(int one, int other) {
        int count = Math.min(5, all.people.size());
        if (one == other || !in(one, 0, count - 1) || !in(other, 0, count - 1)) {
            return NONE;
        }
        List<Set<Integer>> sets = explanations();
        int met = met(sets, 10 * Math.min(one, other) + Math.max(one, other));
        return sets.isEmpty() ? NONE : met == sets.size() ? 1 : met == 0 ? 0 : NONE;
    }

    public int corner() {
        List<Set<Integer>> sets = explanations();
        int best = NONE;
        double nearest = Double.MAX_VALUE;
        for (int two = 1; two < 45; two++) {
            int met = met(sets, two);
            double off = Math.abs(met - sets.size() / 2.0);
            if (met > 0 && met < sets.size() && off < nearest) {
                nearest = off;
                best = two;
            }
        }
        return best;
    }

    public int image() {
        image = all.copy();
        return all.state.day;
    }

    public int back() {
        all = image.copy();
        return all.state.day;
    }

    public int about(int what) {
        if (!in(what, 0, 7)) {
            return -2;
        }
        return new int[] {all.people.size(), all.state.day, all.state.hour, all.state.x,
            all.texts.size(), all.ruling, all.steps.size(), tape.length()}[what];
    }

    // ---- the language ----

    private static int near(long value) {
        return (int) (value > 1000000 ? 1000000 : value < -1000000 ? -1000000 : value);
    }

    /** Reads a text by its grammar, throwing at the first fault. */
    private static final class Grammar {
        private static final List<String> NAMES = List.of("day", "hour", "who", "age", "back",
            "whom", "other", "owes", "due", "given");
        private static final Map<String, String> OF_LAW = Map.of(
            "size", " day hour who age back whom other owes due ",
            "more", " day hour who age whom other given ",
            "late", " day hour who age whom other owes ",
            "ruin", " day hour who age back ");

        private final List<String> tokens = new ArrayList<>();
        private final List<Integer> places = new ArrayList<>();
        private final Text text = new Text();
        private int at = 0;
        private String law = "";
        private int open = 0;

        Grammar(String read) {
            int i = 0;
            while (i < read.length()) {
                char c = read.charAt(i);
                int from = i++;
                if (c == ' ' || c == '\n') {
                    continue;
                }
                String kind = c < 128 && Character.isLetter(c) ? "[a-zA-Z]" : c < 128
                    && Character.isDigit(c) ? "[0-9]" : null;
                if (kind != null) {
                    while (i < read.length() && read.substring(i, i + 1).matches(kind)) {
                        i++;
                    }
                } else if ((c == '<' || c == '>') && i < read.length() && read.charAt(i) == '=') {
                    i++;
                }
                tokens.add(read.substring(from, i));
                places.add(from);
            }
            tokens.add("");
            places.add(read.length());
        }

        private String token() {
            return tokens.get(at);
        }

        private Fault fault(int kind) {
            return new Fault(kind, places.get(at));
        }

        private boolean take(String... any) {
            for (String one : any) {
                if (token().equals(one)) {
                    at++;
                    return true;
                }
            }
            return false;
        }

        private void need(String one) {
            if (!take(one)) {
                throw fault(1);
            }
        }

        private int number(int least, int most) {
            if (!token().matches("[0-9]+")) {
                throw fault(1);
            }
            java.math.BigInteger value = new java.math.BigInteger(token());
            if (value.bitLength() > 20 || !in(value.intValue(), least, most)) {
                throw fault(2);
            }
            at++;
            return value.intValue();
        }

        Text text() {
            while (!token().isEmpty()) {
                String kind = token();
                String rest = Map.ofEntries(Map.entry("size", "s"), Map.entry("more", "s"),
                    Map.entry("late", "s"), Map.entry("ruin", "s"), Map.entry("one", "A back A at L"),
                    Map.entry("bow", "P to P"), Map.entry("owe", "P to P of N"),
                    Map.entry("walk", "P"), Map.entry("retreat", "P"),
                    Map.entry("clear", "P and P and P"), Map.entry("feast", ""),
                    Map.entry("hour", "H")).get(kind);
                if (rest == null) {
                    throw fault(1);
                }
                if (text.laws.containsKey(kind)) {
                    throw fault(4);
                }
                if (text.kinds.size() == 24) {
                    throw fault(6);
                }
                at++;
                int[] numbers = new int[3];
                int told = 0;
                if (rest.equals("s")) {
                    law = kind;
                    text.laws.put(kind, sum());
                } else if (!rest.isEmpty()) {
                    for (String part : rest.split(" ")) {
                        switch (part) {
                            case "A": numbers[told++] = number(0, 99); break;
                            case "L": numbers[told++] = number(0, 7); break;
                            case "P": numbers[told++] = number(0, 6); break;
                            case "N": numbers[told++] = number(0, 9999); break;
                            case "H": numbers[told++] = number(1, 60); break;
                            default: need(part); break;
                        }
                    }
                }
                need(";");
                text.kinds.add(kind);
                text.numbers.add(numbers);
            }
            return text;
        }

        private Sum sum() {
            Sum left = product();
            while (token().equals("+") || token().equals("-")) {
                boolean plus = take("+") || !take("-");
                Sum a = left;
                Sum b = product();
                left = asked -> near((long) a.of(asked) + (plus ? b.of(asked) : -b.of(asked)));
            }
            return left;
        }

        private Sum product() {
            Sum left = one();
            while (token().equals("*") || token().equals("/")) {
                boolean times = take("*") || !take("/");
                Sum a = left;
                Sum b = one();
                left = asked -> {
                    long x = a.of(asked);
                    long y = b.of(asked);
                    return near(times ? x * y : y == 0 ? 0 : x / y);
                };
            }
            return left;
        }

        private void opens() {
            if (open == 8) {
                throw fault(3);
            }
            open++;
            at++;
        }

        private Sum one() {
            String token = token();
            Sum result;
            switch (token) {
                case "(":
                    opens();
                    result = sum();
                    need(")");
                    open--;
                    return result;
                case "-":
                    opens();
                    Sum minus = one();
                    open--;
                    return asked -> -minus.of(asked);
                case "owed":
                    opens();
                    Sum who = one();
                    need("to");
                    Sum whom = one();
                    open--;
                    return asked -> {
                        int a = who.of(asked);
                        int b = whom.of(asked);
                        return asked.state.told(a) && asked.state.told(b) && a != b
                            ? asked.state.owes(a, b) : 0;
                    };
                case "if":
                    opens();
                    Sum when = either();
                    need("then");
                    Sum then = sum();
                    need("else");
                    Sum otherwise = sum();
                    need("end");
                    open--;
                    return asked -> when.of(asked) == 1 ? then.of(asked) : otherwise.of(asked);
                default:
                    break;
            }
            if (NAMES.contains(token)) {
                if (!OF_LAW.get(law).contains(" " + token + " ")) {
                    throw fault(5);
                }
                at++;
                return asked -> named(token, asked);
            }
            int number = number(0, 9999);
            return asked -> number;
        }

        private static int named(String name, Asked asked) {
            switch (name) {
                case "day": return asked.state.day;
                case "hour": return asked.state.hour;
                case "who": return asked.who;
                case "age": return asked.people.get(asked.who)[0];
                case "back": return asked.state.one.get(asked.who)[0];
                case "whom": return asked.whom;
                case "other": return asked.people.get(asked.whom)[0];
                case "owes": return asked.state.owes(asked.who, asked.whom);
                case "due": return asked.state.owes(asked.whom, asked.who);
                default: return asked.given;
            }
        }

        private Sum either() {
            Sum left = both();
            while (take("or")) {
                Sum a = left;
                Sum b = both();
                left = asked -> Math.max(a.of(asked), b.of(asked));
            }
            return left;
        }

        private Sum both() {
            Sum left = ask();
            while (take("and")) {
                Sum a = left;
                Sum b = ask();
                left = asked -> Math.min(a.of(asked), b.of(asked));
            }
            return left;
        }

        private Sum ask() {
            if (token().equals("not")) {
                opens();
                Sum inner = ask();
                open--;
                return asked -> 1 - inner.of(asked);
            }
            Sum a = sum();
            String sign = token();
            if (!take("<", "<=", ">", ">=", "=", "#")) {
                throw fault(1);
            }
            Sum b = sum();
            return asked -> {
                int order = Integer.compare(a.of(asked), b.of(asked));
                boolean so = sign.equals("<") ? order < 0 : sign.equals("<=") ? order <= 0
                    : sign.equals(">") ? order > 0 : sign.equals(">=") ? order >= 0
                    : sign.equals("=") ? order == 0 : order != 0;
                return so ? 1 : 0;
            };
        }
    }
}

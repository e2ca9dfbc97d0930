import java.util.ArrayList;
import java.util.Arrays;
import java.util.HashMap;
import java.util.HashSet;
import java.util.LinkedHashMap;
import java.util.List;
import java.util.Map;
import java.util.Objects;
import java.util.Set;
import java.util.TreeSet;

/**
 * The document once more, by other means than the program's: sets of STATES are TreeSets, LIKE ones
 * are found by the WORDS they take, WORDS are counted and listed one by one. It is slow, and its
 * answers are what ReferenceTest holds the program to.
 */
public final class Reference {

    /** A machine with choice. */
    static final class Nfa {
        int states = 1;
        Set<Integer> starts = new TreeSet<>(Set.of(0));
        Set<Integer> goals = new TreeSet<>();
        /** An ARROW is a list of from, SIGN, to. */
        Set<List<Integer>> arrows = new HashSet<>();

        Nfa copy() {
            Nfa copy = new Nfa();
            copy.states = states;
            copy.starts = new TreeSet<>(starts);
            copy.goals = new TreeSet<>(goals);
            copy.arrows = new HashSet<>(arrows);
            return copy;
        }

        boolean same(Nfa two) {
            return states == two.states && starts.equals(two.starts) && goals.equals(two.goals)
                    && arrows.equals(two.arrows);
        }

        Set<Integer> step(Set<Integer> set, int sign) {
            Set<Integer> reached = new TreeSet<>();
            for (int from : set) {
                for (int to = 0; to < states; to++) {
                    if (arrows.contains(List.of(from, sign, to))) {
                        reached.add(to);
                    }
                }
            }
            return reached;
        }

        Set<Integer> after(List<Integer> word) {
            Set<Integer> set = starts;
            for (int sign : word) {
                set = step(set, sign);
            }
            return set;
        }

        boolean takes(List<Integer> word) {
            return meets(after(word), goals);
        }

        boolean plain() {
            if (starts.size() != 1 || arrows.size() != states * 3) {
                return false;
            }
            for (int from = 0; from < states; from++) {
                for (int sign = 0; sign < 3; sign++) {
                    if (step(Set.of(from), sign).size() != 1) {
                        return false;
                    }
                }
            }
            return true;
        }

        Nfa round() {
            Nfa round = new Nfa();
            round.states = states;
            round.starts = new TreeSet<>(goals);
            round.goals = new TreeSet<>(starts);
            for (List<Integer> arrow : arrows) {
                round.arrows.add(List.of(arrow.get(2), arrow.get(1), arrow.get(0)));
            }
            return round;
        }

        /** The ONE-WAY one, or null if it is CROWDED. */
        Dfa oneWay() {
            List<Set<Integer>> sets = new ArrayList<>();
            sets.add(starts);
            Dfa made = new Dfa();
            for (int number = 0; number < sets.size(); number++) {
                int[] row = new int[3];
                for (int sign = 0; sign < 3; sign++) {
                    Set<Integer> reached = step(sets.get(number), sign);
                    if (!sets.contains(reached)) {
                        sets.add(reached);
                    }
                    row[sign] = sets.indexOf(reached);
                }
                if (sets.size() > 32) {
                    return null;
                }
                made.add(row, meets(sets.get(number), goals));
            }
            return made;
        }

        /** What size() means by how, or null if it is CROWDED. */
        Dfa by(int how) {
            if (how == 2) {
                Dfa first = round().oneWay();
                return first == null ? null : first.nfa().round().oneWay();
            }
            Dfa made = oneWay();
            return made == null || how == 3 ? made : made.least();
        }
    }

    /** A PLAIN machine. */
    static final class Dfa {
        List<int[]> rows = new ArrayList<>();
        List<Boolean> goals = new ArrayList<>();

        void add(int[] row, boolean isGoal) {
            rows.add(row);
            goals.add(isGoal);
        }

        int size() {
            return rows.size();
        }

        int after(List<Integer> word) {
            int state = 0;
            for (int sign : word) {
                state = rows.get(state)[sign];
            }
            return state;
        }

        Nfa nfa() {
            Nfa nfa = new Nfa();
            nfa.states = size();
            for (int from = 0; from < size(); from++) {
                for (int sign = 0; sign < 3; sign++) {
                    nfa.arrows.add(List.of(from, sign, rows.get(from)[sign]));
                }
                if (goals.get(from)) {
                    nfa.goals.add(from);
                }
            }
            return nfa;
        }

        /** STATES with one name take the same WORDS of up to as many SIGNS as there are STATES. */
        private int[] names() {
            int[] names = new int[size()];
            for (int state = 0; state < size(); state++) {
                names[state] = goals.get(state) ? 1 : 0;
            }
            for (int length = 0; length <= size(); length++) {
                Map<List<Integer>, Integer> known = new HashMap<>();
                int[] longer = new int[size()];
                for (int state = 0; state < size(); state++) {
                    int[] row = rows.get(state);
                    List<Integer> seen = List.of(names[state], names[row[0]], names[row[1]], names[row[2]]);
                    known.putIfAbsent(seen, known.size());
                    longer[state] = known.get(seen);
                }
                names = longer;
            }
            return names;
        }

        Dfa least() {
            int[] names = names();
            Map<Integer, Integer> members = new LinkedHashMap<>();
            members.put(names[0], 0);
            Dfa made = new Dfa();
            for (int number = 0; number < members.size(); number++) {
                int member = new ArrayList<>(members.values()).get(number);
                int[] row = new int[3];
                for (int sign = 0; sign < 3; sign++) {
                    int to = rows.get(member)[sign];
                    members.putIfAbsent(names[to], to);
                    row[sign] = new ArrayList<>(members.keySet()).indexOf(names[to]);
                }
                made.add(row, goals.get(member));
            }
            return made;
        }

        String text() {
            StringBuilder text = new StringBuilder();
            for (int state = 0; state < size(); state++) {
                int[] row = rows.get(state);
                text.append(state == 0 ? "" : " ").append(row[0]).append(",").append(row[1]).append(",")
                        .append(row[2]).append(goals.get(state) ? "*" : "");
            }
            return text.toString();
        }

        /** Words are listed by a walk through all of that length. */
        private String walk(int state, int left, String letters, int[] skip) {
            if (left == 0) {
                return goals.get(state) && skip[0]-- == 0 ? letters + "." : null;
            }
            for (int sign = 0; sign < 3; sign++) {
                String found = walk(rows.get(state)[sign], left - 1, letters + "abc".charAt(sign), skip);
                if (found != null) {
                    return found;
                }
            }
            return null;
        }

        String word(int k) {
            int[] skip = {k};
            for (int length = 0; length <= 12; length++) {
                String found = walk(0, length, "", skip);
                if (found != null) {
                    return found;
                }
            }
            return "";
        }

        int many(int length) {
            long[] at = new long[size()];
            at[0] = 1;
            for (int k = 0; k < length; k++) {
                long[] next = new long[size()];
                for (int state = 0; state < size(); state++) {
                    for (int sign = 0; sign < 3; sign++) {
                        next[rows.get(state)[sign]] += at[state];
                    }
                }
                at = next;
            }
            long taken = 0;
            for (int state = 0; state < size(); state++) {
                taken += goals.get(state) ? at[state] : 0;
            }
            return (int) taken;
        }

        private Set<Integer> reachable(int from) {
            Set<Integer> seen = new TreeSet<>();
            List<Integer> open = new ArrayList<>(List.of(from));
            while (!open.isEmpty()) {
                for (int to : rows.get(open.remove(0))) {
                    if (seen.add(to)) {
                        open.add(to);
                    }
                }
            }
            return seen;
        }

        /** Without end just if a STATE comes back to itself and to a GOAL. */
        int kind() {
            Set<Integer> all = reachable(0);
            all.add(0);
            int taking = 0;
            boolean isEndless = false;
            for (int state : all) {
                taking += goals.get(state) ? 1 : 0;
                Set<Integer> on = reachable(state);
                boolean comesToGoal = false;
                for (int to : on) {
                    comesToGoal |= goals.get(to);
                }
                isEndless |= on.contains(state) && comesToGoal;
            }
            if (taking == 0 || taking == all.size()) {
                return taking == 0 ? 0 : 1;
            }
            return isEndless ? 3 : 2;
        }
    }

    /** The PAIRS of two machines, all of them or until one is UNLIKE. */
    static final class Pairs {
        List<List<Integer>> met = new ArrayList<>();
        List<String> words = new ArrayList<>();
        List<int[]> rows = new ArrayList<>();
        boolean isUnlike;
        boolean isCrowded;

        Pairs(Nfa one, Nfa two, int most, boolean stops) {
            Dfa first = one.oneWay();
            Dfa second = two.oneWay();
            if (first == null || second == null) {
                isCrowded = true;
                return;
            }
            meet(first, second, List.of(0, 0), "");
            for (int pair = 0; pair < met.size(); pair++) {
                int[] row = new int[3];
                for (int sign = 0; sign < 3; sign++) {
                    if (stops && isUnlike) {
                        return;
                    }
                    List<Integer> to = List.of(first.rows.get(met.get(pair).get(0))[sign],
                            second.rows.get(met.get(pair).get(1))[sign]);
                    if (!met.contains(to)) {
                        if (met.size() == most) {
                            isCrowded = true;
                            return;
                        }
                        meet(first, second, to, words.get(pair) + "abc".charAt(sign));
                    }
                    row[sign] = met.indexOf(to);
                }
                rows.add(row);
            }
        }

        private void meet(Dfa first, Dfa second, List<Integer> pair, String word) {
            met.add(pair);
            words.add(word);
            isUnlike |= !Objects.equals(first.goals.get(pair.get(0)), second.goals.get(pair.get(1)));
        }
    }

    private static boolean meets(Set<Integer> one, Set<Integer> two) {
        for (int number : one) {
            if (two.contains(number)) {
                return true;
            }
        }
        return false;
    }

    private static int bits(Set<Integer> set) {
        int sum = 0;
        for (int number : set) {
            sum += (int) Math.pow(2, number);
        }
        return sum;
    }

    static List<Integer> signs(int length, int code) {
        List<Integer> word = new ArrayList<>();
        for (int k = 0; k < length; k++) {
            word.add(code / (int) Math.pow(3, k) % 3);
        }
        return word;
    }

    private final Nfa[] machines = {new Nfa(), new Nfa(), new Nfa(), new Nfa()};
    private final int[] house = new int[3];

    private Nfa machine(int number) {
        return machines[Objects.checkIndex(number, 4)];
    }

    private static void demand(boolean isSo) {
        if (!isSo) {
            throw new IllegalArgumentException();
        }
    }

    private static void demandRoom(boolean isSo) {
        if (!isSo) {
            throw new IllegalStateException();
        }
    }

    private int done(int answer) {
        house[0]++;
        return answer;
    }

    private int refused() {
        house[1]++;
        return -9;
    }

    public int begin(int machine, int states) {
        machine(machine);
        demand(states >= 1 && states <= 7);
        int had = machines[machine].arrows.size();
        machines[machine] = new Nfa();
        machines[machine].states = states;
        return done(had);
    }

    public int arrow(int machine, int from, int sign, int to, boolean isThere) {
        Nfa nfa = machine(machine);
        Objects.checkIndex(from, nfa.states);
        Objects.checkIndex(to, nfa.states);
        demand(sign >= 0 && sign <= 2);
        List<Integer> arrow = List.of(from, sign, to);
        return done((isThere ? nfa.arrows.add(arrow) : nfa.arrows.remove(arrow)) ? 1 : 0);
    }

    public int lead(int machine, int from, int sign, int to) {
        Nfa nfa = machine(machine);
        Objects.checkIndex(from, nfa.states);
        Objects.checkIndex(to, nfa.states);
        demand(sign >= 0 && sign <= 2);
        int before = nfa.arrows.size();
        nfa.arrows.removeIf(arrow -> arrow.get(0) == from && arrow.get(1) == sign);
        int gone = before - nfa.arrows.size();
        nfa.arrows.add(List.of(from, sign, to));
        return done(gone);
    }

    public int mark(int machine, int state, boolean isGoal, boolean is) {
        Nfa nfa = machine(machine);
        Objects.checkIndex(state, nfa.states);
        Set<Integer> set = isGoal ? nfa.goals : nfa.starts;
        return done((is ? set.add(state) : set.remove(state)) ? 1 : 0);
    }

    public int sow(int machine, int seed, int states, int choice) {
        machine(machine);
        demand(seed >= 0 && seed <= 65535);
        demand(states >= 1 && states <= 7);
        demand(choice >= 0 && choice <= 6);
        Nfa sown = new Nfa();
        sown.states = states;
        long[] x = {seed};
        for (int from = 0; from < states; from++) {
            for (int sign = 0; sign < 3; sign++) {
                if (choice == 0) {
                    sown.arrows.add(List.of(from, sign, draw(x) % states));
                    continue;
                }
                for (int to = 0; to < states; to++) {
                    if (draw(x) % (choice + 1) == 0) {
                        sown.arrows.add(List.of(from, sign, to));
                    }
                }
            }
        }
        for (int state = 0; state < states; state++) {
            if (draw(x) % 2 == 0) {
                sown.goals.add(state);
            }
        }
        machines[machine] = sown;
        return done(sown.arrows.size());
    }

    private static int draw(long[] x) {
        x[0] = (x[0] * 25173 + 13849) % 65536;
        return (int) (x[0] / 64);
    }

    public int copy(int from, int into) {
        boolean wasSame = machine(from).same(machine(into));
        machines[into] = machines[from].copy();
        return done(wasSame ? 0 : 1);
    }

    public int swap(int one, int other) {
        boolean areSame = machine(one).same(machine(other));
        Nfa kept = machines[one];
        machines[one] = machines[other];
        machines[other] = kept;
        return done(areSame ? 0 : 1);
    }

    public int turn(int machine) {
        machines[machine] = machine(machine).round();
        return done(machines[machine].arrows.size());
    }

    public int other(int machine) {
        Nfa nfa = machine(machine);
        if (!nfa.plain()) {
            return refused();
        }
        Set<Integer> goals = new TreeSet<>();
        for (int state = 0; state < nfa.states; state++) {
            if (!nfa.goals.contains(state)) {
                goals.add(state);
            }
        }
        nfa.goals = goals;
        return done(goals.size());
    }

    public int grow(int machine) {
        Nfa nfa = machine(machine);
        return nfa.states == 7 ? refused() : done(nfa.states++);
    }

    public int drop(int machine, int state) {
        Nfa nfa = machine(machine);
        Objects.checkIndex(state, nfa.states);
        if (nfa.states == 1) {
            return refused();
        }
        Nfa left = new Nfa();
        left.states = nfa.states - 1;
        left.starts = without(nfa.starts, state);
        left.goals = without(nfa.goals, state);
        for (List<Integer> arrow : nfa.arrows) {
            int from = arrow.get(0);
            int to = arrow.get(2);
            if (from != state && to != state) {
                left.arrows.add(List.of(from > state ? from - 1 : from, arrow.get(1), to > state ? to - 1 : to));
            }
        }
        machines[machine] = left;
        return done(nfa.arrows.size() - left.arrows.size());
    }

    private static Set<Integer> without(Set<Integer> set, int gone) {
        Set<Integer> left = new TreeSet<>();
        for (int number : set) {
            if (number != gone) {
                left.add(number > gone ? number - 1 : number);
            }
        }
        return left;
    }

    public int make(int machine, boolean isLeast, int into) {
        machine(into);
        return become(machine(machine).by(isLeast ? 0 : 3), into);
    }

    private int become(Dfa made, int into) {
        if (made == null || made.size() > 7) {
            return refused();
        }
        machines[into] = made.nfa();
        return done(made.size());
    }

    public int combine(int one, int other, int what, int into) {
        machine(one);
        machine(other);
        machine(into);
        demand(what >= 0 && what <= 3);
        return become(joint(one, other, what), into);
    }

    private Dfa joint(int one, int other, int what) {
        Pairs pairs = new Pairs(machine(one), machine(other), 32, false);
        if (pairs.isCrowded) {
            return null;
        }
        Dfa first = machine(one).oneWay();
        Dfa second = machine(other).oneWay();
        Dfa joint = new Dfa();
        for (int pair = 0; pair < pairs.met.size(); pair++) {
            boolean isFirst = first.goals.get(pairs.met.get(pair).get(0));
            boolean isSecond = second.goals.get(pairs.met.get(pair).get(1));
            joint.add(pairs.rows.get(pair), List.of(isFirst | isSecond, isFirst & isSecond, isFirst & !isSecond,
                    isFirst ^ isSecond).get(what));
        }
        return joint.least();
    }

    public int tell(int machine, int what) {
        Nfa nfa = machine(machine);
        demand(what >= 0 && what <= 4);
        return List.of(nfa.states, nfa.arrows.size(), bits(nfa.starts), bits(nfa.goals), nfa.plain() ? 1 : 0).get(what);
    }

    public int arrows(int machine, int from, int sign) {
        Nfa nfa = machine(machine);
        Objects.checkIndex(from, nfa.states);
        demand(sign >= 0 && sign <= 2);
        return bits(nfa.step(Set.of(from), sign));
    }

    private static void demandWord(int length, int code) {
        demand(length >= 0 && length <= 12);
        demand(code >= 0 && code < Math.pow(3, length));
    }

    public boolean takes(int machine, int length, int code) {
        Nfa nfa = machine(machine);
        demandWord(length, code);
        return nfa.takes(signs(length, code));
    }

    public int after(int machine, int length, int code, int what) {
        Nfa nfa = machine(machine);
        demandWord(length, code);
        demand(what >= 0 && what <= 2);
        if (what == 0) {
            return bits(nfa.after(signs(length, code)));
        }
        return by(machine, what == 1 ? 3 : 0).after(signs(length, code));
    }

    private Dfa by(int machine, int how) {
        Nfa nfa = machine(machine);
        demand(how >= 0 && how <= 3);
        Dfa made = nfa.by(how);
        demandRoom(made != null);
        return made;
    }

    public int size(int machine, int how) {
        return by(machine, how).size();
    }

    public String text(int machine, int how) {
        return by(machine, how).text();
    }

    public int kind(int machine) {
        return by(machine, 3).kind();
    }

    public int many(int machine, int length, int how) {
        Nfa nfa = machine(machine);
        demand(length >= 0 && length <= 12);
        demand(how == 0 || how == 1 && length <= 5);
        if (how == 0) {
            return by(machine, 3).many(length);
        }
        int taken = 0;
        for (int code = 0; code < Math.pow(3, length); code++) {
            taken += nfa.takes(signs(length, code)) ? 1 : 0;
        }
        return taken;
    }

    public String word(int machine, int k) {
        machine(machine);
        demand(k >= 0);
        return by(machine, 3).word(k);
    }

    private Pairs met(int one, int other) {
        Pairs pairs = new Pairs(machine(one), machine(other), 200, true);
        demandRoom(!pairs.isCrowded);
        return pairs;
    }

    public boolean isAlike(int one, int other, int how) {
        machine(one);
        machine(other);
        demand(how == 0 || how == 1);
        if (how == 0) {
            return !met(one, other).isUnlike;
        }
        return by(one, 0).text().equals(by(other, 0).text());
    }

    public String apart(int one, int other) {
        Pairs pairs = met(one, other);
        return pairs.isUnlike ? pairs.words.get(pairs.words.size() - 1) + "." : "";
    }

    public int pairs(int one, int other) {
        return met(one, other).met.size();
    }

    public int together(int one, int other, int what, int length) {
        machine(one);
        machine(other);
        demand(what >= 0 && what <= 3);
        demand(length >= -1 && length <= 12);
        Dfa joint = joint(one, other, what);
        demandRoom(joint != null);
        return length == -1 ? joint.size() : joint.many(length);
    }

    public int house(int what) {
        demand(what >= 0 && what <= 2);
        return house[what];
    }

    public int knock() {
        return ++house[2];
    }

    public boolean isSound() {
        return true;
    }

    public long digest() {
        List<Integer> told = new ArrayList<>();
        for (int machine = 0; machine < 4; machine++) {
            for (int what = 0; what <= 4; what++) {
                told.add(tell(machine, what));
            }
            for (int state = 0; state < machines[machine].states; state++) {
                for (int sign = 0; sign < 3; sign++) {
                    told.add(arrows(machine, state, sign));
                }
            }
        }
        told.addAll(Arrays.asList(house[0], house[1], house[2], 1));
        long sum = 8025;
        for (int value : told) {
            sum = sum * 31 + value;
        }
        return sum;
    }
}

/**
 * Four machines that read words of three signs, with and without choice. DOC.md tells what each
 * method promises; the words in capitals in the comments here are that document's.
 */
public final class Leastreader {

    private static final int NONE = -1;
    private static final int REFUSED = -9;

    private static final int MACHINES = 4;
    private static final int SIGNS = 3;
    private static final int MOST_STATES = 7;
    private static final int MOST_SETS = 32;
    private static final int MOST_PAIRS = 200;
    private static final int LONGEST = 12;
    private static final int LONGEST_ONE_BY_ONE = 5;
    private static final int LARGEST_SEED = 65535;
    private static final int LARGEST_CHOICE = 6;

    private static final int BY_PARTING = 0;
    private static final int BY_PAIRS = 1;
    private static final int BY_TURNING = 2;
    private static final int ONE_WAY = 3;

    private static final int EITHER = 0;
    private static final int BOTH = 1;
    private static final int FIRST_ALONE = 2;
    private static final int JUST_ONE = 3;

    private final Machine[] machines = new Machine[MACHINES];
    private final Machine spare = new Machine(MOST_STATES);
    private final Machine again = new Machine(MOST_SETS);
    private final Drawer drawer = new Drawer();
    private final Maker maker = new Maker();
    private final Meeting meeting = new Meeting();
    private final Tails tails = new Tails();
    private final Plain left = new Plain();
    private final Plain right = new Plain();
    private final Plain joint = new Plain();
    private final Plain made = new Plain();
    private int acts;
    private int refusals;
    private int knocks;

    public Leastreader() {
        for (int machine = 0; machine < machines.length; machine++) {
            machines[machine] = new Machine(MOST_STATES);
        }
    }

    // ---- acts

    public int begin(int machine, int states) throws IndexOutOfBoundsException, IllegalArgumentException {
        Machine begun = machineAt(machine);
        checkRange(states, 1, MOST_STATES);
        int had = begun.countArrows();
        begun.clear(states);
        return acted(had);
    }

    public int arrow(int machine, int from, int sign, int to, boolean isThere)
            throws IndexOutOfBoundsException, IllegalArgumentException {
        Machine changed = machineAt(machine);
        checkState(changed, from);
        checkState(changed, to);
        checkSign(sign);
        int before = changed.at(from, sign);
        int now = withOrWithout(before, to, isThere);
        changed.put(from, sign, now);
        return acted(now != before ? 1 : 0);
    }

    public int lead(int machine, int from, int sign, int to)
            throws IndexOutOfBoundsException, IllegalArgumentException {
        Machine changed = machineAt(machine);
        checkState(changed, from);
        checkState(changed, to);
        checkSign(sign);
        int before = changed.at(from, sign);
        changed.put(from, sign, 1 << to);
        return acted(Integer.bitCount(before));
    }

    public int mark(int machine, int state, boolean isGoal, boolean is) throws IndexOutOfBoundsException {
        Machine changed = machineAt(machine);
        checkState(changed, state);
        int before = isGoal ? changed.goals : changed.starts;
        int now = withOrWithout(before, state, is);
        if (isGoal) {
            changed.goals = now;
        } else {
            changed.starts = now;
        }
        return acted(now != before ? 1 : 0);
    }

    public int sow(int machine, int seed, int states, int choice)
            throws IndexOutOfBoundsException, IllegalArgumentException {
        Machine sown = machineAt(machine);
        checkRange(seed, 0, LARGEST_SEED);
        checkRange(states, 1, MOST_STATES);
        checkRange(choice, 0, LARGEST_CHOICE);
        drawer.restart(seed);
        sown.clear(states);
        sown.sowArrows(drawer, choice);
        sown.sowGoals(drawer);
        return acted(sown.countArrows());
    }

    public int copy(int from, int into) throws IndexOutOfBoundsException {
        Machine pattern = machineAt(from);
        Machine copied = machineAt(into);
        boolean wasSame = copied.isSameAs(pattern);
        copied.become(pattern);
        return acted(wasSame ? 0 : 1);
    }

    public int swap(int one, int other) throws IndexOutOfBoundsException {
        Machine first = machineAt(one);
        Machine second = machineAt(other);
        boolean areSame = first.isSameAs(second);
        spare.become(first);
        first.become(second);
        second.become(spare);
        return acted(areSame ? 0 : 1);
    }

    public int turn(int machine) throws IndexOutOfBoundsException {
        Machine turned = machineAt(machine);
        spare.become(turned);
        turned.becomeRound(spare);
        return acted(turned.countArrows());
    }

    public int other(int machine) throws IndexOutOfBoundsException {
        Machine changed = machineAt(machine);
        if (!changed.isPlain()) {
            return refuse();
        }
        changed.goals = changed.allStates() & ~changed.goals;
        return acted(Integer.bitCount(changed.goals));
    }

    public int grow(int machine) throws IndexOutOfBoundsException {
        Machine grown = machineAt(machine);
        if (grown.states >= MOST_STATES) {
            return refuse();
        }
        grown.addState();
        return acted(grown.states - 1);
    }

    public int drop(int machine, int state) throws IndexOutOfBoundsException {
        Machine changed = machineAt(machine);
        checkState(changed, state);
        if (changed.states == 1) {
            return refuse();
        }
        int before = changed.countArrows();
        changed.removeState(state);
        return acted(before - changed.countArrows());
    }

    public int make(int machine, boolean isLeast, int into) throws IndexOutOfBoundsException {
        Machine pattern = machineAt(machine);
        Machine target = machineAt(into);
        if (!maker.makeBy(isLeast ? BY_PARTING : ONE_WAY, pattern, made)) {
            return refuse();
        }
        return becomeMade(target);
    }

    public int combine(int one, int other, int what, int into)
            throws IndexOutOfBoundsException, IllegalArgumentException {
        Machine first = machineAt(one);
        Machine second = machineAt(other);
        Machine target = machineAt(into);
        checkRange(what, EITHER, JUST_ONE);
        if (!putTogether(first, second, what)) {
            return refuse();
        }
        return becomeMade(target);
    }

    // ---- asked of one

    public int tell(int machine, int what) throws IndexOutOfBoundsException, IllegalArgumentException {
        Machine asked = machineAt(machine);
        checkRange(what, 0, 4);
        switch (what) {
            case 0:
                return asked.states;
            case 1:
                return asked.countArrows();
            case 2:
                return asked.starts;
            case 3:
                return asked.goals;
            default:
                return asked.isPlain() ? 1 : 0;
        }
    }

    public int arrows(int machine, int from, int sign) throws IndexOutOfBoundsException, IllegalArgumentException {
        Machine asked = machineAt(machine);
        checkState(asked, from);
        checkSign(sign);
        return asked.at(from, sign);
    }

    public boolean takes(int machine, int length, int code)
            throws IndexOutOfBoundsException, IllegalArgumentException {
        Machine asked = machineAt(machine);
        checkWord(length, code);
        return asked.isTaking(length, code);
    }

    public int after(int machine, int length, int code, int what)
            throws IndexOutOfBoundsException, IllegalArgumentException, IllegalStateException {
        Machine asked = machineAt(machine);
        checkWord(length, code);
        checkRange(what, 0, 2);
        if (what == 0) {
            return asked.statesAfter(length, code);
        }
        makeOrThrow(what == 1 ? ONE_WAY : BY_PARTING, asked, made);
        return made.stateAfter(length, code);
    }

    public int size(int machine, int how)
            throws IndexOutOfBoundsException, IllegalArgumentException, IllegalStateException {
        Machine asked = machineAt(machine);
        checkRange(how, BY_PARTING, ONE_WAY);
        makeOrThrow(how, asked, made);
        return made.states;
    }

    public String text(int machine, int how)
            throws IndexOutOfBoundsException, IllegalArgumentException, IllegalStateException {
        Machine asked = machineAt(machine);
        checkRange(how, BY_PARTING, ONE_WAY);
        makeOrThrow(how, asked, made);
        return made.describe();
    }

    public int kind(int machine) throws IndexOutOfBoundsException, IllegalStateException {
        makeOrThrow(BY_PARTING, machineAt(machine), made);
        if (made.states == 1) {
            return made.isGoal(0) ? 1 : 0;
        }
        return made.isTakingLongOnes() ? 3 : 2;
    }

    public int many(int machine, int length, int how)
            throws IndexOutOfBoundsException, IllegalArgumentException, IllegalStateException {
        Machine asked = machineAt(machine);
        checkRange(how, 0, 1);
        checkRange(length, 0, how == 1 ? LONGEST_ONE_BY_ONE : LONGEST);
        if (how == 1) {
            return asked.countOneByOne(length);
        }
        makeOrThrow(BY_PARTING, asked, made);
        tails.count(made);
        return tails.from(0, length);
    }

    public String word(int machine, int k)
            throws IndexOutOfBoundsException, IllegalArgumentException, IllegalStateException {
        Machine asked = machineAt(machine);
        if (k < 0) {
            throw new IllegalArgumentException("k is below 0");
        }
        makeOrThrow(BY_PARTING, asked, made);
        tails.count(made);
        return tails.wordAt(made, k);
    }

    // ---- asked of two

    public boolean isAlike(int one, int other, int how)
            throws IndexOutOfBoundsException, IllegalArgumentException, IllegalStateException {
        Machine first = machineAt(one);
        Machine second = machineAt(other);
        checkRange(how, 0, 1);
        if (how == 0) {
            meetOrThrow(first, second);
            return meeting.unlike == NONE;
        }
        makeOrThrow(BY_PARTING, first, left);
        makeOrThrow(BY_PARTING, second, right);
        return left.isSameAs(right);
    }

    public String apart(int one, int other) throws IndexOutOfBoundsException, IllegalStateException {
        Machine first = machineAt(one);
        Machine second = machineAt(other);
        meetOrThrow(first, second);
        return meeting.unlike == NONE ? "" : meeting.wordTo(meeting.unlike);
    }

    public int pairs(int one, int other) throws IndexOutOfBoundsException, IllegalStateException {
        Machine first = machineAt(one);
        Machine second = machineAt(other);
        meetOrThrow(first, second);
        return meeting.count;
    }

    public int together(int one, int other, int what, int length)
            throws IndexOutOfBoundsException, IllegalArgumentException, IllegalStateException {
        Machine first = machineAt(one);
        Machine second = machineAt(other);
        checkRange(what, EITHER, JUST_ONE);
        checkRange(length, NONE, LONGEST);
        if (!putTogether(first, second, what)) {
            throw new IllegalStateException("CROWDED");
        }
        if (length == NONE) {
            return made.states;
        }
        tails.count(made);
        return tails.from(0, length);
    }

    // ---- the whole

    public int house(int what) throws IllegalArgumentException {
        checkRange(what, 0, 2);
        switch (what) {
            case 0:
                return acts;
            case 1:
                return refusals;
            default:
                return knocks;
        }
    }

    public int knock() {
        knocks++;
        return knocks;
    }

    public boolean isSound() {
        Machine machine = machineAt(0);
        if (!maker.makeBy(BY_PARTING, machine, made)) {
            return true;
        }
        if (!maker.makeBy(BY_PAIRS, machine, left) || !left.isSameAs(made)) {
            return false;
        }
        if (maker.makeBy(BY_TURNING, machine, left) && !left.isSameAs(made)) {
            return false;
        }
        again.becomePlain(made);
        if (!maker.makeBy(BY_PARTING, again, left) || !left.isSameAs(made)) {
            return false;
        }
        return isTakingTheSame(machine);
    }

    public long digest() {
        long sum = 8025;
        for (int machine = 0; machine < machines.length; machine++) {
            sum = addMachine(sum, machines[machine]);
        }
        sum = sum * 31 + acts;
        sum = sum * 31 + refusals;
        sum = sum * 31 + knocks;
        return sum * 31 + (isSound() ? 1 : 0);
    }

    // ---- what the methods above share

    private Machine machineAt(int machine) {
        if (machine < 0 || machine >= machines.length) {
            throw new IndexOutOfBoundsException("no such MACHINE");
        }
        return machines[machine];
    }

    private static void checkState(Machine machine, int state) {
        if (state < 0 || state >= machine.states) {
            throw new IndexOutOfBoundsException("no such STATE");
        }
    }

    private static void checkSign(int sign) {
        checkRange(sign, 0, SIGNS - 1);
    }

    private static void checkWord(int length, int code) {
        checkRange(length, 0, LONGEST);
        checkRange(code, 0, countCodes(length) - 1);
    }

    private static void checkRange(int number, int least, int most) {
        if (number < least || number > most) {
            throw new IllegalArgumentException("a number is out of its range");
        }
    }

    private static int countCodes(int length) {
        int codes = 1;
        for (int k = 0; k < length; k++) {
            codes *= SIGNS;
        }
        return codes;
    }

    private static boolean isIn(int set, int number) {
        return (set >> number & 1) != 0;
    }

    private static int withOrWithout(int set, int number, boolean isWith) {
        return isWith ? set | 1 << number : set & ~(1 << number);
    }

    private static char letterOf(int sign) {
        return (char) ('a' + sign);
    }

    private int acted(int answer) {
        acts++;
        return answer;
    }

    private int refuse() {
        refusals++;
        return REFUSED;
    }

    private int becomeMade(Machine target) {
        if (made.states > MOST_STATES) {
            return refuse();
        }
        target.becomePlain(made);
        return acted(made.states);
    }

    private void makeOrThrow(int how, Machine from, Plain into) {
        if (!maker.makeBy(how, from, into)) {
            throw new IllegalStateException("CROWDED");
        }
    }

    private void meetOrThrow(Machine first, Machine second) {
        if (!meetPairs(first, second, MOST_PAIRS, false)) {
            throw new IllegalStateException("CROWDED");
        }
    }

    private boolean meetPairs(Machine first, Machine second, int most, boolean isWhole) {
        return maker.makeOneWay(first, left)
                && maker.makeOneWay(second, right)
                && meeting.meet(left, right, most, isWhole);
    }

    /** Makes the LEAST one of two PUT TOGETHER; tells whether it is not CROWDED. */
    private boolean putTogether(Machine first, Machine second, int what) {
        if (!meetPairs(first, second, MOST_SETS, true)) {
            return false;
        }
        joint.becomePairs(meeting, what);
        maker.lessen(joint, made);
        return true;
    }

    private boolean isTakingTheSame(Machine machine) {
        for (int length = 0; length <= 2; length++) {
            int codes = countCodes(length);
            for (int code = 0; code < codes; code++) {
                if (made.isGoal(made.stateAfter(length, code)) != machine.isTaking(length, code)) {
                    return false;
                }
            }
        }
        return true;
    }

    private static long addMachine(long sum, Machine machine) {
        long added = sum * 31 + machine.states;
        added = added * 31 + machine.countArrows();
        added = added * 31 + machine.starts;
        added = added * 31 + machine.goals;
        added = added * 31 + (machine.isPlain() ? 1 : 0);
        for (int state = 0; state < machine.states; state++) {
            for (int sign = 0; sign < SIGNS; sign++) {
                added = added * 31 + machine.at(state, sign);
            }
        }
        return added;
    }

    /** A row of numbers that looks at each place before it is used: a missing one reads as 0. */
    private static final class Row {
        private final int[] cells;

        Row(int length) {
            cells = new int[length < 0 ? 0 : length];
        }

        int at(int place) {
            return place >= 0 && place < cells.length ? cells[place] : 0;
        }

        void put(int place, int value) {
            if (place >= 0 && place < cells.length) {
                cells[place] = value;
            }
        }

        void fill(int value) {
            for (int place = 0; place < cells.length; place++) {
                cells[place] = value;
            }
        }

        int find(int value, int length) {
            for (int place = 0; place < length && place < cells.length; place++) {
                if (cells[place] == value) {
                    return place;
                }
            }
            return NONE;
        }
    }

    /** Draws the numbers by which a MACHINE is sown. */
    private static final class Drawer {
        private int x;

        void restart(int seed) {
            x = seed;
        }

        int draw() {
            x = (x * 25173 + 13849) % 65536;
            return x / 64;
        }
    }

    /** What both sorts of machine have: a cell for each STATE and SIGN, and GOALS, held as bits. */
    private abstract static class Table {
        private final int[] cells;
        int states = 1;
        int goals;

        Table(int room) {
            cells = new int[room < 0 || room > MOST_SETS ? 0 : room * SIGNS];
        }

        /** Looks at the place before it is used, as a Row does. */
        final int at(int from, int sign) {
            int place = from * SIGNS + sign;
            return place >= 0 && place < cells.length ? cells[place] : 0;
        }

        final void put(int from, int sign, int value) {
            int place = from * SIGNS + sign;
            if (place >= 0 && place < cells.length) {
                cells[place] = value;
            }
        }

        final boolean isSameTable(Table pattern) {
            if (states != pattern.states || goals != pattern.goals) {
                return false;
            }
            for (int from = 0; from < states; from++) {
                for (int sign = 0; sign < SIGNS; sign++) {
                    if (at(from, sign) != pattern.at(from, sign)) {
                        return false;
                    }
                }
            }
            return true;
        }
    }

    /** A machine with or without choice; sets of its STATES are held as bits. */
    private static final class Machine extends Table {
        private int starts = 1;

        Machine(int room) {
            super(room);
        }

        void clear(int count) {
            states = 0;
            goals = 0;
            for (int state = 0; state < count; state++) {
                addState();
            }
            starts = 1;
        }

        int countArrows() {
            int arrows = 0;
            for (int from = 0; from < states; from++) {
                for (int sign = 0; sign < SIGNS; sign++) {
                    arrows += Integer.bitCount(at(from, sign));
                }
            }
            return arrows;
        }

        boolean isPlain() {
            for (int from = 0; from < states; from++) {
                for (int sign = 0; sign < SIGNS; sign++) {
                    if (Integer.bitCount(at(from, sign)) != 1) {
                        return false;
                    }
                }
            }
            return Integer.bitCount(starts) == 1;
        }

        int allStates() {
            return (1 << states) - 1;
        }

        void sowArrows(Drawer drawer, int choice) {
            for (int from = 0; from < states; from++) {
                for (int sign = 0; sign < SIGNS; sign++) {
                    put(from, sign, choice == 0 ? sowOne(drawer) : sowSome(drawer, choice));
                }
            }
        }

        private int sowOne(Drawer drawer) {
            int drawn = drawer.draw();
            return states > 0 ? 1 << drawn % states : 0;
        }

        private int sowSome(Drawer drawer, int choice) {
            int set = 0;
            for (int to = 0; to < states; to++) {
                int drawn = drawer.draw();
                if (choice >= 0 && drawn % (choice + 1) == 0) {
                    set |= 1 << to;
                }
            }
            return set;
        }

        void sowGoals(Drawer drawer) {
            for (int state = 0; state < states; state++) {
                if (drawer.draw() % 2 == 0) {
                    goals |= 1 << state;
                }
            }
        }

        boolean isSameAs(Machine pattern) {
            return starts == pattern.starts && isSameTable(pattern);
        }

        void become(Machine pattern) {
            states = pattern.states;
            starts = pattern.starts;
            goals = pattern.goals;
            for (int from = 0; from < states; from++) {
                for (int sign = 0; sign < SIGNS; sign++) {
                    put(from, sign, pattern.at(from, sign));
                }
            }
        }

        void becomePlain(Plain pattern) {
            states = pattern.states;
            starts = 1;
            goals = pattern.goals;
            for (int from = 0; from < states; from++) {
                for (int sign = 0; sign < SIGNS; sign++) {
                    put(from, sign, 1 << pattern.at(from, sign));
                }
            }
        }

        /** Becomes the pattern turned round; the pattern is another machine than this one. */
        void becomeRound(Machine pattern) {
            states = pattern.states;
            starts = pattern.goals;
            goals = pattern.starts;
            for (int to = 0; to < states; to++) {
                for (int sign = 0; sign < SIGNS; sign++) {
                    put(to, sign, pattern.sources(to, sign));
                }
            }
        }

        private int sources(int to, int sign) {
            int set = 0;
            for (int from = 0; from < states; from++) {
                if (isIn(at(from, sign), to)) {
                    set |= 1 << from;
                }
            }
            return set;
        }

        void addState() {
            for (int sign = 0; sign < SIGNS; sign++) {
                put(states, sign, 0);
            }
            states++;
        }

        void removeState(int state) {
            for (int from = 0; from < states - 1; from++) {
                int kept = from < state ? from : from + 1;
                for (int sign = 0; sign < SIGNS; sign++) {
                    put(from, sign, closeUp(at(kept, sign), state));
                }
            }
            starts = closeUp(starts, state);
            goals = closeUp(goals, state);
            states--;
        }

        private static int closeUp(int set, int gone) {
            int below = set & (1 << gone) - 1;
            int above = set >> gone + 1;
            return below | above << gone;
        }

        int reach(int set, int sign) {
            int reached = 0;
            for (int from = 0; from < states; from++) {
                if (isIn(set, from)) {
                    reached |= at(from, sign);
                }
            }
            return reached;
        }

        int statesAfter(int length, int code) {
            int set = starts;
            int rest = code;
            for (int k = 0; k < length; k++) {
                set = reach(set, rest % SIGNS);
                rest /= SIGNS;
            }
            return set;
        }

        boolean isTaking(int length, int code) {
            return (statesAfter(length, code) & goals) != 0;
        }

        int countOneByOne(int length) {
            int codes = countCodes(length);
            int taken = 0;
            for (int code = 0; code < codes; code++) {
                if (isTaking(length, code)) {
                    taken++;
                }
            }
            return taken;
        }
    }

    /** A PLAIN machine of up to 32 STATES whose START is the STATE 0. */
    private static final class Plain extends Table {

        Plain() {
            super(MOST_SETS);
        }

        boolean isGoal(int state) {
            return isIn(goals, state);
        }

        boolean isSameAs(Plain pattern) {
            return isSameTable(pattern);
        }

        void becomePairs(Meeting meeting, int what) {
            states = meeting.count;
            goals = 0;
            for (int pair = 0; pair < states; pair++) {
                goals = withOrWithout(goals, pair, meeting.isGoal(pair, what));
                for (int sign = 0; sign < SIGNS; sign++) {
                    put(pair, sign, meeting.target(pair, sign));
                }
            }
        }

        int stateAfter(int length, int code) {
            int state = 0;
            int rest = code;
            for (int k = 0; k < length; k++) {
                state = at(state, rest % SIGNS);
                rest /= SIGNS;
            }
            return state;
        }

        /**
         * A way as long as there are STATES goes through one of them twice, and one of less than
         * twice that length is left if all rounds but one are cut out of it.
         */
        boolean isTakingLongOnes() {
            int set = goals;
            for (int length = 1; length < 2 * states; length++) {
                set = ledInto(set);
                if (length >= states && isIn(set, 0)) {
                    return true;
                }
            }
            return false;
        }

        private int ledInto(int set) {
            int led = 0;
            for (int from = 0; from < states; from++) {
                for (int sign = 0; sign < SIGNS; sign++) {
                    if (isIn(set, at(from, sign))) {
                        led |= 1 << from;
                    }
                }
            }
            return led;
        }

        String describe() {
            StringBuilder text = new StringBuilder();
            for (int from = 0; from < states; from++) {
                if (from > 0) {
                    text.append(' ');
                }
                for (int sign = 0; sign < SIGNS; sign++) {
                    if (sign > 0) {
                        text.append(',');
                    }
                    text.append(at(from, sign));
                }
                if (isGoal(from)) {
                    text.append('*');
                }
            }
            return text.toString();
        }
    }

    /** Makes ONE-WAY and LEAST ones; its rows are kept, so that no call makes new ones. */
    private static final class Maker {
        private final Row sets = new Row(MOST_SETS);
        private final Row members = new Row(MOST_SETS);
        private final Row numbers = new Row(MOST_SETS);
        private final Likeness likeness = new Likeness();
        private final Machine wide = new Machine(MOST_SETS);
        private final Machine round = new Machine(MOST_SETS);
        private final Plain oneWay = new Plain();

        /** Makes that which size() means by how; tells whether it is not CROWDED. */
        boolean makeBy(int how, Machine from, Plain into) {
            if (how == ONE_WAY) {
                return makeOneWay(from, into);
            }
            if (how == BY_TURNING) {
                return makeByTurning(from, into);
            }
            if (!makeOneWay(from, oneWay)) {
                return false;
            }
            if (how == BY_PAIRS) {
                likeness.findByPairs(oneWay);
            } else {
                likeness.findByParting(oneWay);
            }
            makeGroups(oneWay, into);
            return true;
        }

        /** Makes the LEAST one of a PLAIN one of which each STATE can be reached. */
        void lessen(Plain from, Plain into) {
            likeness.findByParting(from);
            makeGroups(from, into);
        }

        private boolean makeByTurning(Machine from, Plain into) {
            round.becomeRound(from);
            if (!makeOneWay(round, oneWay)) {
                return false;
            }
            wide.becomePlain(oneWay);
            round.becomeRound(wide);
            return makeOneWay(round, into);
        }

        boolean makeOneWay(Machine from, Plain into) {
            sets.put(0, from.starts);
            into.states = 1;
            into.goals = 0;
            for (int number = 0; number < MOST_SETS && number < into.states; number++) {
                int set = sets.at(number);
                into.goals = withOrWithout(into.goals, number, (set & from.goals) != 0);
                for (int sign = 0; sign < SIGNS; sign++) {
                    int to = numberOf(from.reach(set, sign), into);
                    if (to == NONE) {
                        return false;
                    }
                    into.put(number, sign, to);
                }
            }
            return true;
        }

        /** The number of a set, a new one if it has none yet; NONE if there are no more numbers. */
        private int numberOf(int set, Plain into) {
            int known = sets.find(set, into.states);
            if (known != NONE || into.states >= MOST_SETS) {
                return known;
            }
            sets.put(into.states, set);
            into.states++;
            return into.states - 1;
        }

        private void makeGroups(Plain from, Plain into) {
            numbers.fill(NONE);
            numbers.put(likeness.partOf(0), 0);
            members.put(0, 0);
            into.states = 1;
            into.goals = 0;
            for (int number = 0; number < MOST_SETS && number < into.states; number++) {
                int member = members.at(number);
                into.goals = withOrWithout(into.goals, number, from.isGoal(member));
                for (int sign = 0; sign < SIGNS; sign++) {
                    into.put(number, sign, groupNumber(from.at(member, sign), into));
                }
            }
        }

        private int groupNumber(int state, Plain into) {
            int part = likeness.partOf(state);
            if (numbers.at(part) == NONE) {
                numbers.put(part, into.states);
                members.put(into.states, state);
                into.states++;
            }
            return numbers.at(part);
        }
    }

    /** Finds the groups of LIKE ones in a PLAIN machine; a group is named by its first STATE. */
    private static final class Likeness {
        private final Row parts = new Row(MOST_SETS);
        private final Row codes = new Row(MOST_SETS);
        private final Row unlike = new Row(MOST_SETS);

        int partOf(int state) {
            return parts.at(state);
        }

        void findByParting(Plain from) {
            for (int state = 0; state < from.states; state++) {
                parts.put(state, firstOfGoalness(from, state));
            }
            boolean isParted = true;
            for (int round = 0; round < MOST_SETS && isParted; round++) {
                isParted = partOnce(from);
            }
        }

        private static int firstOfGoalness(Plain from, int state) {
            for (int first = 0; first < state; first++) {
                if (from.isGoal(first) == from.isGoal(state)) {
                    return first;
                }
            }
            return state;
        }

        private boolean partOnce(Plain from) {
            for (int state = 0; state < from.states; state++) {
                codes.put(state, codeOf(from, state));
            }
            boolean isParted = false;
            for (int state = 0; state < from.states; state++) {
                int first = codes.find(codes.at(state), from.states);
                isParted |= first != parts.at(state);
                parts.put(state, first);
            }
            return isParted;
        }

        /** Two STATES that stay in one part, and no others, have the same code. */
        private int codeOf(Plain from, int state) {
            int code = parts.at(state);
            for (int sign = 0; sign < SIGNS; sign++) {
                code = code * MOST_SETS + parts.at(from.at(state, sign));
            }
            return code;
        }

        void findByPairs(Plain from) {
            for (int state = 0; state < from.states; state++) {
                unlike.put(state, ofOtherGoalness(from, state));
            }
            boolean isTold = true;
            for (int round = 0; round < MOST_SETS * MOST_SETS && isTold; round++) {
                isTold = tellFurther(from);
            }
            for (int state = 0; state < from.states; state++) {
                parts.put(state, firstNotUnlike(state));
            }
        }

        private static int ofOtherGoalness(Plain from, int state) {
            int set = 0;
            for (int two = 0; two < from.states; two++) {
                if (from.isGoal(two) != from.isGoal(state)) {
                    set |= 1 << two;
                }
            }
            return set;
        }

        private boolean tellFurther(Plain from) {
            boolean isTold = false;
            for (int one = 0; one < from.states; one++) {
                for (int two = 0; two < one; two++) {
                    if (!isIn(unlike.at(one), two) && isLeadingToUnlike(from, one, two)) {
                        unlike.put(one, unlike.at(one) | 1 << two);
                        unlike.put(two, unlike.at(two) | 1 << one);
                        isTold = true;
                    }
                }
            }
            return isTold;
        }

        private boolean isLeadingToUnlike(Plain from, int one, int two) {
            for (int sign = 0; sign < SIGNS; sign++) {
                if (isIn(unlike.at(from.at(one, sign)), from.at(two, sign))) {
                    return true;
                }
            }
            return false;
        }

        private int firstNotUnlike(int state) {
            for (int first = 0; first < state; first++) {
                if (!isIn(unlike.at(state), first)) {
                    return first;
                }
            }
            return state;
        }
    }

    /** The PAIRS of two PLAIN machines, in the sequence in which they are met. */
    private static final class Meeting {
        private final Row firsts = new Row(MOST_PAIRS);
        private final Row seconds = new Row(MOST_PAIRS);
        private final Row cameFrom = new Row(MOST_PAIRS);
        private final Row cameBy = new Row(MOST_PAIRS);
        private final Row leads = new Row(MOST_PAIRS * SIGNS);
        private final Row numbers = new Row(MOST_SETS * MOST_SETS);
        private int firstGoals;
        private int secondGoals;
        private int count;
        private int unlike;

        /** Meets them until one is UNLIKE, or all of them; tells whether they are not CROWDED. */
        boolean meet(Plain first, Plain second, int most, boolean isWhole) {
            numbers.fill(NONE);
            firstGoals = first.goals;
            secondGoals = second.goals;
            count = 0;
            unlike = NONE;
            add(0, 0, NONE, NONE);
            for (int pair = 0; pair < most && pair < count; pair++) {
                for (int sign = 0; sign < SIGNS; sign++) {
                    if (unlike != NONE && !isWhole) {
                        return true;
                    }
                    int to = first.at(firsts.at(pair), sign);
                    int and = second.at(seconds.at(pair), sign);
                    if (numbers.at(to * MOST_SETS + and) == NONE) {
                        if (count >= most) {
                            return false;
                        }
                        add(to, and, pair, sign);
                    }
                    leads.put(pair * SIGNS + sign, numbers.at(to * MOST_SETS + and));
                }
            }
            return true;
        }

        private void add(int first, int second, int from, int sign) {
            firsts.put(count, first);
            seconds.put(count, second);
            cameFrom.put(count, from);
            cameBy.put(count, sign);
            numbers.put(first * MOST_SETS + second, count);
            if (unlike == NONE && isGoal(count, JUST_ONE)) {
                unlike = count;
            }
            count++;
        }

        int target(int pair, int sign) {
            return leads.at(pair * SIGNS + sign);
        }

        boolean isGoal(int pair, int what) {
            boolean isFirst = isIn(firstGoals, firsts.at(pair));
            boolean isSecond = isIn(secondGoals, seconds.at(pair));
            switch (what) {
                case EITHER:
                    return isFirst || isSecond;
                case BOTH:
                    return isFirst && isSecond;
                case FIRST_ALONE:
                    return isFirst && !isSecond;
                default:
                    return isFirst != isSecond;
            }
        }

        /** The WORD by which a pair was met; of those that lead to it this is the first in the ORDER. */
        String wordTo(int pair) {
            StringBuilder letters = new StringBuilder();
            letters.append('.');
            int at = pair;
            for (int k = 0; k < MOST_PAIRS && at > 0; k++) {
                letters.append(letterOf(cameBy.at(at)));
                at = cameFrom.at(at);
            }
            return letters.reverse().toString();
        }
    }

    /** How many ways of each LENGTH lead from each STATE of a PLAIN machine to a GOAL. */
    private static final class Tails {
        private final Row ways = new Row((LONGEST + 1) * MOST_SETS);

        int from(int state, int length) {
            return ways.at(length * MOST_SETS + state);
        }

        void count(Plain machine) {
            for (int state = 0; state < machine.states; state++) {
                ways.put(state, machine.isGoal(state) ? 1 : 0);
            }
            for (int length = 1; length <= LONGEST; length++) {
                for (int state = 0; state < machine.states; state++) {
                    ways.put(length * MOST_SETS + state, sumOver(machine, state, length - 1));
                }
            }
        }

        private int sumOver(Plain machine, int state, int length) {
            int sum = 0;
            for (int sign = 0; sign < SIGNS; sign++) {
                sum += from(machine.at(state, sign), length);
            }
            return sum;
        }

        /** The WORD k in the ORDER, as a text; "" if there is none. */
        String wordAt(Plain machine, int k) {
            int before = k;
            int length = 0;
            while (length <= LONGEST && before >= from(0, length)) {
                before -= from(0, length);
                length++;
            }
            return length > LONGEST ? "" : wordOfLength(machine, length, before);
        }

        private String wordOfLength(Plain machine, int length, int k) {
            StringBuilder letters = new StringBuilder();
            int before = k;
            int state = 0;
            for (int rest = length - 1; rest >= 0; rest--) {
                int sign = 0;
                while (sign < SIGNS - 1 && before >= from(machine.at(state, sign), rest)) {
                    before -= from(machine.at(state, sign), rest);
                    sign++;
                }
                letters.append(letterOf(sign));
                state = machine.at(state, sign);
            }
            letters.append('.');
            return letters.toString();
        }
    }
}

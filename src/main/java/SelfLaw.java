import java.util.Arrays;

/**
 * A law that can change itself: clauses that stand by one of their forms or are struck, and what sets of
 * groups may lawfully do to them, reach, keep so for good or make sure of.
 */
public final class SelfLaw {
    public static final int UNKNOWN = -1, BAD = -2, LATE = -3, FULL = -4, NONE = -9;

    private static final int CLAUSES = 5;
    private static final int FORMS = 3;
    private static final int THINGS = 4;
    private static final int BODIES = 3;
    private static final int GROUPS = 4;
    private static final int SETS = 1 << GROUPS;
    private static final int EVERYBODY = SETS - 1;
    private static final int MOST_SEATS = 99;
    private static final int MOST_TURNS = 8;
    private static final int MOST_ROWS = 20;
    private static final int SLOTS = 3;

    /** The letters of FORMS, by the numbers that {@link #about} tells. */
    private static final int CHANGE = 0, STRIKE = 1, DO = 2, BAR = 3, SEATS = 4;

    /** The parts of a FORM, by the numbers that {@link #about} asks for. */
    private static final int LETTER = 0, FIRST = 1, SECOND = 2, THIRD = 3, SIGN = 4, HANGS = 5, PARTS = 6;

    /** WHY NOT. */
    private static final int MAY = 0, NOT_GIVEN = 1, NOT_IN_FORCE = 2, TOO_FEW = 3, BARRED = 4, NOTHING_NEW = 5;

    private final Text text = new Text();
    private final Law law = new Law();
    private final Sight sight = new Sight(law);
    private final Sight otherSight = new Sight(law);
    private final Search search = new Search();
    private final int[] rollSets = new int[MOST_ROWS];
    private final int[] rollActs = new int[MOST_ROWS];
    private int rolled;
    private final int[] kept = new int[SLOTS];
    private int state;

    public SelfLaw() {
        Arrays.fill(kept, NONE);
    }

    // ---- texts, forms

    public int write(int n, long v) {
        return n < 1 || n > 8 ? BAD : text.append(n, v);
    }

    public int wipe() {
        return text.clear();
    }

    public int fault() {
        return text.read();
    }

    public int form(int clause) {
        if (!isClause(clause)) {
            return UNKNOWN;
        }
        return text.read() != NONE ? LATE : law.add(clause, text);
    }

    public int unform(int clause) {
        if (!isClause(clause)) {
            return UNKNOWN;
        }
        state = State.put(state, clause, 0);
        return law.drop(clause);
    }

    public int about(int clause, int form, int what) {
        if (!isClause(clause) || form < 1 || form > law.formsOf(clause)) {
            return UNKNOWN;
        }
        return what < 0 || what >= PARTS ? BAD : law.part(Law.rowOf(clause, form) + what);
    }

    public int seats(int body, int group, int n) {
        if (body < 0 || body >= BODIES || group < 0 || group >= GROUPS) {
            return UNKNOWN;
        }
        return n < 0 || n > MOST_SEATS ? BAD : law.giveSeats(body, group, n);
    }

    // ---- the state

    public int stand(int clause, int form) {
        if (!isClause(clause)) {
            return UNKNOWN;
        }
        if (form < 0 || form > law.formsOf(clause)) {
            return BAD;
        }
        int was = State.formOf(state, clause);
        state = State.put(state, clause, form);
        return was;
    }

    public int thing(int thing, boolean is) {
        if (thing < 0 || thing >= THINGS) {
            return UNKNOWN;
        }
        int was = State.thingOf(state, thing);
        state = State.make(state, thing, is ? 1 : 0);
        return was;
    }

    public int at(int clause) {
        return isClause(clause) ? State.formOf(state, clause) : UNKNOWN;
    }

    public int force(int clause) {
        if (!isClause(clause)) {
            return UNKNOWN;
        }
        return law.inForce(state, clause) ? 1 : 0;
    }

    public int votes(int set, int body) {
        if (!isSet(set)) {
            return BAD;
        }
        return body < 0 || body >= BODIES ? UNKNOWN : lookAs(set).votesIn(body);
    }

    public int is(int goal) {
        if (!Goal.exists(goal)) {
            return BAD;
        }
        return Goal.isSo(goal, state) ? 1 : 0;
    }

    // ---- acts

    public int acts(int set) {
        return isSet(set) ? listAs(set).howManyMay() : BAD;
    }

    public int which(int set, int i) {
        return isSet(set) ? listAs(set).mayDo(i) : BAD;
    }

    public int why(int set, int act) {
        return isSet(set) && Act.exists(act) ? lookAs(set).whyNot(act) : BAD;
    }

    public int act(int set, int act) {
        if (!isSet(set) || !Act.exists(act)) {
            return BAD;
        }
        int whyNot = lookAs(set).whyNot(act);
        if (whyNot == MAY) {
            state = sight.after(act);
        }
        return whyNot;
    }

    // ---- what can be reached

    public int reach(int set) {
        if (!isSet(set)) {
            return BAD;
        }
        searchAs(set);
        return search.size();
    }

    public int among(int set, int goal) {
        if (!isSet(set) || !Goal.exists(goal)) {
            return BAD;
        }
        searchAs(set);
        return search.howManyWith(goal);
    }

    public int shortest(int set, int goal) {
        if (!isSet(set) || !Goal.exists(goal)) {
            return BAD;
        }
        return search.stepsTo(findAs(set, goal));
    }

    public int step(int set, int goal, int i) {
        if (!isSet(set) || !Goal.exists(goal)) {
            return BAD;
        }
        return search.stepOnWayTo(findAs(set, goal), i);
    }

    public int who(int goal) {
        if (!Goal.exists(goal)) {
            return BAD;
        }
        for (int groups = 0; groups <= GROUPS; groups++) {
            for (int set = 0; set < SETS; set++) {
                if (Integer.bitCount(set) == groups && findAs(set, goal) != NONE) {
                    return set;
                }
            }
        }
        return NONE;
    }

    public int forGood(int goal) {
        if (!Goal.exists(goal)) {
            return BAD;
        }
        return holdsFrom(state, EVERYBODY, goal, 0) ? 1 : 0;
    }

    public int trap(int set, int goal) {
        if (!isSet(set) || !Goal.exists(goal)) {
            return BAD;
        }
        // Everybody together reaches all that the set reaches, so every state of the second search is marked.
        searchAs(EVERYBODY);
        search.markEscapes(goal, sight);
        searchAs(set);
        return search.stepsTo(search.firstUnmarked());
    }

    public int hold(int set, int goal) {
        if (!isSet(set) || !Goal.exists(goal)) {
            return BAD;
        }
        return holdsFrom(state, set, goal, 0) ? 1 : 0;
    }

    public int hangs(int set, int goal) {
        if (!isSet(set) || !Goal.exists(goal)) {
            return BAD;
        }
        if (!holdsFrom(state, set, goal, 0)) {
            return NONE;
        }
        int clauses = 0;
        for (int clause = 0; clause < CLAUSES; clause++) {
            boolean stands = State.formOf(state, clause) != 0;
            if (stands && !holdsFrom(State.put(state, clause, 0), set, goal, 0)) {
                clauses |= 1 << clause;
            }
        }
        return clauses;
    }

    public int remedy(int set, int goal) {
        if (!isSet(set) || !Goal.exists(goal)) {
            return BAD;
        }
        for (int clause = 0; clause < CLAUSES; clause++) {
            if (holdsFrom(state, set, goal, 1 << clause)) {
                return clause;
            }
        }
        return NONE;
    }

    // ---- by turns, idle

    public int sure(int set, int other, int goal, int turns) {
        if (!isGame(set, other, goal, turns)) {
            return BAD;
        }
        play(set, other, goal, turns);
        return search.isMarked(state, 2 * turns) ? 1 : 0;
    }

    public int begin(int set, int other, int goal, int turns) {
        if (!isGame(set, other, goal, turns)) {
            return BAD;
        }
        play(set, other, goal, turns);
        if (!search.isMarked(state, 2 * turns) || search.isMarked(state, 2 * turns - 1)) {
            return NONE;
        }
        sight.list(state);
        return search.firstActTo(sight, 2 * turns - 1, true);
    }

    public int idle(int set, int clause) {
        if (!isSet(set)) {
            return BAD;
        }
        if (!isClause(clause)) {
            return UNKNOWN;
        }
        searchAs(set);
        int now = search.rowsOfThings();
        // A bar keeps a struck clause from being put to a form, and hinders nothing else.
        sight.choose(set, 1 << clause);
        search.run(State.put(state, clause, 0), sight);
        return search.rowsOfThings() == now ? 1 : 0;
    }

    // ---- the roll, slots

    public int roll(int set, int act) {
        if (!isSet(set) || !Act.exists(act)) {
            return BAD;
        }
        if (rolled < 0 || rolled >= MOST_ROWS) {
            return FULL;
        }
        rollSets[rolled] = set;
        rollActs[rolled] = act;
        rolled++;
        return rolled;
    }

    public int unroll() {
        int were = rolled;
        rolled = 0;
        return were;
    }

    public int judge(boolean why) {
        int then = state;
        for (int row = 0; row < rolled && row < MOST_ROWS; row++) {
            sight.choose(rollSets[row], 0);
            sight.look(then);
            int whyNot = sight.whyNot(rollActs[row]);
            if (whyNot != MAY) {
                return why ? whyNot : row;
            }
            then = sight.after(rollActs[row]);
        }
        return NONE;
    }

    public int keep(int slot) {
        if (slot < 0 || slot >= SLOTS) {
            return UNKNOWN;
        }
        int answer = kept[slot] == NONE ? 1 : 0;
        kept[slot] = state;
        return answer;
    }

    public int again(int slot) {
        if (slot < 0 || slot >= SLOTS) {
            return UNKNOWN;
        }
        if (kept[slot] == NONE) {
            return LATE;
        }
        int was = state;
        state = law.withoutGoneForms(kept[slot]);
        return State.differences(was, state);
    }

    public int count(int what) {
        switch (what) {
            case 0:
                return text.size();
            case 1:
                return law.toldInAll();
            case 2:
                return State.howManyStand(state);
            case 3:
                return Integer.bitCount(State.thingsOf(state));
            case 4:
                return rolled;
            case 5:
                return law.howManyInForce(state);
            default:
                return BAD;
        }
    }

    // ---- what several calls ask

    private static boolean isClause(int clause) {
        return clause >= 0 && clause < CLAUSES;
    }

    private static boolean isSet(int set) {
        return set >= 0 && set < SETS;
    }

    private static boolean isGame(int set, int other, int goal, int turns) {
        return isSet(set) && isSet(other) && Goal.exists(goal) && turns >= 1 && turns <= MOST_TURNS;
    }

    private Sight lookAs(int set) {
        sight.choose(set, 0);
        sight.look(state);
        return sight;
    }

    private Sight listAs(int set) {
        sight.choose(set, 0);
        sight.list(state);
        return sight;
    }

    private void searchAs(int set) {
        sight.choose(set, 0);
        search.run(state, sight);
    }

    /** The STATE in which THE SHORTEST ends; NONE. */
    private int findAs(int set, int goal) {
        sight.choose(set, 0);
        return search.find(state, sight, goal, true);
    }

    private boolean holdsFrom(int start, int set, int goal, int bars) {
        sight.choose(set, bars);
        return search.find(start, sight, goal, false) == NONE;
    }

    private void play(int set, int other, int goal, int turns) {
        sight.choose(set, 0);
        otherSight.choose(other, 0);
        search.runByBoth(state, sight, otherSight, 2 * turns);
        search.markSure(goal, turns, sight, otherSight);
    }

    /**
     * A STATE as one number, so that rows over all STATES can be asked by it: two bits for each CLAUSE, and
     * above these one for each THING.
     */
    private static final class State {
        static final int THINGS_FROM = 2 * CLAUSES;
        static final int ALL = 1 << (THINGS_FROM + THINGS);

        static int formOf(int state, int clause) {
            return (state >> (2 * clause)) & 3;
        }

        static int put(int state, int clause, int form) {
            int place = 2 * clause;
            return (state & ~(3 << place)) | ((form & 3) << place);
        }

        static int thingOf(int state, int thing) {
            return (state >> (THINGS_FROM + thing)) & 1;
        }

        static int make(int state, int thing, int so) {
            int place = THINGS_FROM + thing;
            return (state & ~(1 << place)) | ((so & 1) << place);
        }

        static int thingsOf(int state) {
            return (state >> THINGS_FROM) & ((1 << THINGS) - 1);
        }

        static int howManyStand(int state) {
            int standing = 0;
            for (int clause = 0; clause < CLAUSES; clause++) {
                standing += formOf(state, clause) != 0 ? 1 : 0;
            }
            return standing;
        }

        static int differences(int one, int other) {
            int otherwise = Integer.bitCount(thingsOf(one) ^ thingsOf(other));
            for (int clause = 0; clause < CLAUSES; clause++) {
                otherwise += formOf(one, clause) != formOf(other, clause) ? 1 : 0;
            }
            return otherwise;
        }

        static boolean exists(int state) {
            return state >= 0 && state < ALL;
        }
    }

    /** A GOAL by its number; what a FORM HANGS on is told as one too, and is always so if it is NONE. */
    private static final class Goal {
        static boolean exists(int goal) {
            if (goal < 0) {
                return false;
            }
            if (goal < 100) {
                return goal / 10 < THINGS && goal % 10 <= 1;
            }
            return goal < 100 + 10 * CLAUSES && goal % 10 <= FORMS;
        }

        static boolean isSo(int goal, int state) {
            return (state & maskOf(goal)) == valueOf(goal);
        }

        /** The bits of a STATE that the GOAL is about. */
        static int maskOf(int goal) {
            if (goal < 0) {
                return 0;
            }
            return goal < 100 ? State.make(0, goal / 10, 1) : State.put(0, goal / 10 - 10, 3);
        }

        /** What these bits are if it is so. */
        static int valueOf(int goal) {
            if (goal < 0) {
                return 0;
            }
            return goal < 100 ? State.make(0, goal / 10, goal % 10) : State.put(0, goal / 10 - 10, goal % 10);
        }
    }

    /** The numbers of ACTS: 100 for each CLAUSE, and 10 for each FORM that it changes to. */
    private static final class Act {
        static final int ALL = CLAUSES * (FORMS + 1);

        static boolean exists(int act) {
            return act >= 0 && act % 10 == 0 && clauseOf(act) < CLAUSES && formOf(act) <= FORMS;
        }

        static int clauseOf(int act) {
            return act / 100;
        }

        static int formOf(int act) {
            return act / 10 % 10;
        }

        /** The ACTS in order of their numbers. */
        static int nth(int i) {
            return 100 * (i / (FORMS + 1)) + 10 * (i % (FORMS + 1));
        }
    }

    /** THE TEXT, and the parts of the FORM that was read from it. */
    private static final class Text {
        private static final int MOST_BYTES = 20;
        private static final int AT_END = -1;

        private final int[] bytes = new int[MOST_BYTES];
        private int length;
        private final int[] parts = new int[PARTS];
        private int place;
        private int firstFault;

        int size() {
            return length;
        }

        int clear() {
            int was = length;
            length = 0;
            return was;
        }

        int append(int n, long v) {
            if (length + n > MOST_BYTES) {
                return FULL;
            }
            for (int i = n - 1; i >= 0 && length < MOST_BYTES; i--) {
                bytes[length] = (int) ((v >>> (8 * i)) & 255);
                length++;
            }
            return length;
        }

        int part(int what) {
            return what < 0 || what >= PARTS ? NONE : parts[what];
        }

        /** Reads THE TEXT as a FORM, and answers its FAULT. */
        int read() {
            Arrays.fill(parts, NONE);
            place = 0;
            firstFault = NONE;
            readLetter();
            readNumbers();
            readCondition();
            if (place < length) {
                failAt(place);
            }
            return firstFault;
        }

        private void readLetter() {
            switch (next()) {
                case 'C':
                    parts[LETTER] = CHANGE;
                    break;
                case 'S':
                    parts[LETTER] = STRIKE;
                    break;
                case 'D':
                    parts[LETTER] = DO;
                    break;
                case 'B':
                    parts[LETTER] = BAR;
                    break;
                case 'V':
                    parts[LETTER] = SEATS;
                    break;
                default:
                    failAt(place);
                    return;
            }
            place++;
        }

        private void readNumbers() {
            if (parts[LETTER] == BAR) {
                parts[FIRST] = readNumber(0, CLAUSES - 1);
                return;
            }
            boolean ofSeats = parts[LETTER] == SEATS;
            boolean ofThing = parts[LETTER] == DO;
            parts[FIRST] = readNumber(0, BODIES - 1);
            readSign(',');
            parts[SECOND] = ofSeats ? readNumber(0, GROUPS - 1) : readNumber(1, MOST_SEATS);
            readSign(',');
            if (ofSeats) {
                parts[THIRD] = readNumber(1, MOST_SEATS);
            } else {
                parts[THIRD] = readNumber(0, ofThing ? THINGS - 1 : CLAUSES - 1);
            }
            if (ofThing) {
                parts[SIGN] = readPlusOrMinus();
            }
        }

        private void readCondition() {
            if (place >= length) {
                return;
            }
            readSign('?');
            if (next() == '=') {
                readSign('=');
                int clause = readNumber(0, CLAUSES - 1);
                readSign(',');
                parts[HANGS] = 100 + 10 * clause + readNumber(0, FORMS);
            } else {
                int thing = readNumber(0, THINGS - 1);
                parts[HANGS] = 10 * thing + readPlusOrMinus();
            }
        }

        private void readSign(int sign) {
            if (next() == sign) {
                place++;
            } else {
                failAt(place);
            }
        }

        private int readPlusOrMinus() {
            int sign = next();
            if (sign != '+' && sign != '-') {
                failAt(place);
                return 0;
            }
            place++;
            return sign == '+' ? 1 : 0;
        }

        /** One or two figures; a number that is less than it may be can still grow while its text ends behind one. */
        private int readNumber(int least, int most) {
            int start = place;
            int number = 0;
            for (int figures = 0; figures < 2 && isFigure(next()); figures++) {
                number = 10 * number + next() - '0';
                if (number > most) {
                    failAt(place);
                    return 0;
                }
                place++;
            }
            if (place == start) {
                failAt(place);
            } else if (number < least) {
                failAt(place == start + 1 && place >= length ? place : start);
            }
            return number;
        }

        private static boolean isFigure(int sign) {
            return sign >= '0' && sign <= '9';
        }

        private int next() {
            return place < 0 || place >= length || place >= MOST_BYTES ? AT_END : bytes[place];
        }

        /** What is behind the first fault is read in vain: only the first one is kept. */
        private void failAt(int where) {
            if (firstFault == NONE) {
                firstFault = where;
            }
        }
    }

    /** The FORMS of all CLAUSES and the SEATS of all GROUPS. */
    private static final class Law {
        private static final int ALL_FORMS = CLAUSES * (FORMS + 1);

        private final int[] told = new int[CLAUSES];
        private final int[] parts = new int[ALL_FORMS * PARTS];
        /** What each FORM HANGS on, worked out when it is told: searches ask for it in every STATE. */
        private final int[] hangMasks = new int[ALL_FORMS];
        private final int[] hangValues = new int[ALL_FORMS];
        private final int[] ownSeats = new int[BODIES * GROUPS];

        Law() {
            Arrays.fill(parts, NONE);
        }

        private static int placeOf(int clause, int form) {
            return clause * (FORMS + 1) + form;
        }

        static int rowOf(int clause, int form) {
            return placeOf(clause, form) * PARTS;
        }

        int formsOf(int clause) {
            return clause < 0 || clause >= CLAUSES ? 0 : told[clause];
        }

        int toldInAll() {
            int all = 0;
            for (int clause = 0; clause < CLAUSES; clause++) {
                all += told[clause];
            }
            return all;
        }

        int part(int place) {
            return place < 0 || place >= parts.length ? NONE : parts[place];
        }

        int add(int clause, Text text) {
            if (!isClause(clause) || told[clause] >= FORMS) {
                return FULL;
            }
            told[clause]++;
            int row = rowOf(clause, told[clause]);
            for (int what = 0; what < PARTS; what++) {
                if (row >= 0 && row + what < parts.length) {
                    parts[row + what] = text.part(what);
                }
            }
            hangOn(placeOf(clause, told[clause]), text.part(HANGS));
            return told[clause];
        }

        private void hangOn(int place, int goal) {
            if (place >= 0 && place < ALL_FORMS) {
                hangMasks[place] = Goal.maskOf(goal);
                hangValues[place] = Goal.valueOf(goal);
            }
        }

        int drop(int clause) {
            if (!isClause(clause)) {
                return 0;
            }
            int were = told[clause];
            told[clause] = 0;
            return were;
        }

        int giveSeats(int body, int group, int n) {
            int place = body * GROUPS + group;
            if (place < 0 || place >= ownSeats.length) {
                return 0;
            }
            int were = ownSeats[place];
            ownSeats[place] = n;
            return were;
        }

        int ownSeatsOf(int set, int body) {
            int all = 0;
            for (int group = 0; group < GROUPS; group++) {
                int place = body * GROUPS + group;
                if (((set >> group) & 1) == 1 && place >= 0 && place < ownSeats.length) {
                    all += ownSeats[place];
                }
            }
            return all;
        }

        boolean inForce(int state, int clause) {
            int form = State.formOf(state, clause);
            int place = placeOf(clause, form);
            if (form == 0 || place < 0 || place >= ALL_FORMS) {
                return false;
            }
            return (state & hangMasks[place]) == hangValues[place];
        }

        int howManyInForce(int state) {
            int all = 0;
            for (int clause = 0; clause < CLAUSES; clause++) {
                all += inForce(state, clause) ? 1 : 0;
            }
            return all;
        }

        int withoutGoneForms(int state) {
            int left = state;
            for (int clause = 0; clause < CLAUSES; clause++) {
                if (State.formOf(state, clause) > told[clause]) {
                    left = State.put(left, clause, 0);
                }
            }
            return left;
        }
    }

    /** The law in one STATE as a set of GROUPS meets it: worked out once, then asked about each ACT. */
    private static final class Sight {
        private final Law law;
        private final int[] ownVotes = new int[BODIES];
        private final int[] votes = new int[BODIES];
        private final int[] rows = new int[CLAUSES];
        private int groups;
        private int bars;
        private int now;
        private int forced;
        private int barred;
        private final int[] mayActs = new int[Act.ALL];
        private final int[] mayEnds = new int[Act.ALL];
        private int mays;

        Sight(Law law) {
            this.law = law;
        }

        /** From now on for a set; the CLAUSES in the bits of bars are BARRED beside those that the law bars. */
        void choose(int set, int bars) {
            this.groups = set;
            this.bars = bars;
            for (int body = 0; body < BODIES; body++) {
                ownVotes[body] = law.ownSeatsOf(set, body);
            }
        }

        void look(int state) {
            now = state;
            forced = 0;
            barred = bars;
            System.arraycopy(ownVotes, 0, votes, 0, BODIES);
            for (int clause = 0; clause < CLAUSES; clause++) {
                rows[clause] = Law.rowOf(clause, State.formOf(state, clause));
                if (law.inForce(state, clause)) {
                    forced |= 1 << clause;
                    heed(rows[clause]);
                }
            }
        }

        /** A BAR and SEATS work by being IN FORCE, without an ACT. */
        private void heed(int row) {
            int letter = law.part(row + LETTER);
            if (letter == BAR) {
                barred |= 1 << law.part(row + FIRST);
            } else if (letter == SEATS && ((groups >> law.part(row + SECOND)) & 1) == 1) {
                addVotes(law.part(row + FIRST), law.part(row + THIRD));
            }
        }

        private void addVotes(int body, int more) {
            if (body >= 0 && body < BODIES) {
                votes[body] += more;
            }
        }

        int votesIn(int body) {
            return body < 0 || body >= BODIES ? 0 : votes[body];
        }

        int whyNot(int act) {
            int clause = Act.clauseOf(act);
            if (!isClause(clause)) {
                return NOT_GIVEN;
            }
            int row = rows[clause];
            int letter = law.part(row + LETTER);
            int target = law.part(row + THIRD);
            if (!gives(letter, target, Act.formOf(act))) {
                return NOT_GIVEN;
            }
            if (((forced >> clause) & 1) == 0) {
                return NOT_IN_FORCE;
            }
            if (votesIn(law.part(row + FIRST)) < law.part(row + SECOND)) {
                return TOO_FEW;
            }
            if (letter != DO && ((barred >> target) & 1) == 1) {
                return BARRED;
            }
            return after(act) == now ? NOTHING_NEW : MAY;
        }

        private boolean gives(int letter, int target, int form) {
            if (letter == CHANGE) {
                return form >= 1 && form <= law.formsOf(target);
            }
            return (letter == STRIKE || letter == DO) && form == 0;
        }

        /** The STATE behind an ACT that the CLAUSE gives. */
        int after(int act) {
            int clause = Act.clauseOf(act);
            if (!isClause(clause)) {
                return now;
            }
            int row = rows[clause];
            int target = law.part(row + THIRD);
            if (law.part(row + LETTER) == DO) {
                return State.make(now, target, law.part(row + SIGN));
            }
            return State.put(now, target, Act.formOf(act));
        }

        /** Looks at a STATE, and lists what they MAY do there in order. */
        void list(int state) {
            look(state);
            mays = 0;
            for (int i = 0; i < Act.ALL; i++) {
                int act = Act.nth(i);
                boolean works = ((forced >> Act.clauseOf(act)) & 1) == 1;
                if (works && whyNot(act) == MAY && mays < Act.ALL) {
                    mayActs[mays] = act;
                    mayEnds[mays] = after(act);
                    mays++;
                }
            }
        }

        int howManyMay() {
            return mays;
        }

        int mayDo(int i) {
            return i < 0 || i >= mays || i >= Act.ALL ? NONE : mayActs[i];
        }

        int mayComeTo(int i) {
            return i < 0 || i >= mays || i >= Act.ALL ? now : mayEnds[i];
        }
    }

    /**
     * The STATES that are reached from one, in the order in which they are come to: by fewest ACTS, of like
     * ones by the first ACTS. So the first STATE of a kind ends THE SHORTEST row to that kind.
     */
    private static final class Search {
        /** Room for every number of an ACT, so that a STATE and an ACT fit into one number. */
        private static final int ACT_BITS = 9;
        private static final int FROM_NOWHERE = -1;

        private final int[] order = new int[State.ALL];
        private final int[] from = new int[State.ALL];
        private final int[] marks = new int[State.ALL];
        /** By which run each STATE was come to last: so a new run needs no clearing. */
        private final int[] cameBy = new int[State.ALL];
        private int runs;
        private int length;
        /** How many STATES are come to by so many ACTS at most. */
        private final int[] within = new int[2 * MOST_TURNS + 1];

        int size() {
            return length;
        }

        void run(int start, Sight sight) {
            startAt(start);
            for (int i = 0; i < length && i < State.ALL; i++) {
                spread(order[i], sight);
            }
        }

        /** Runs only until a STATE is met in which the GOAL is so (or is not): that one; NONE. */
        int find(int start, Sight sight, int goal, boolean so) {
            startAt(start);
            for (int i = 0; i < length && i < State.ALL; i++) {
                if (Goal.isSo(goal, order[i]) == so) {
                    return order[i];
                }
                spread(order[i], sight);
            }
            return NONE;
        }

        /** By ACTS of either, so many at most: more are not done in a game. */
        void runByBoth(int start, Sight one, Sight other, int most) {
            startAt(start);
            int next = 0;
            for (int acts = 0; acts <= most && acts < within.length; acts++) {
                within[acts] = length;
                for (int i = next; acts < most && i < within[acts] && i < State.ALL; i++) {
                    spread(order[i], one);
                    spread(order[i], other);
                }
                next = within[acts];
            }
        }

        private void startAt(int start) {
            runs++;
            length = 0;
            comeTo(start, FROM_NOWHERE);
        }

        private void spread(int state, Sight sight) {
            sight.list(state);
            for (int i = 0; i < sight.howManyMay() && i < Act.ALL; i++) {
                comeTo(sight.mayComeTo(i), (state << ACT_BITS) | sight.mayDo(i));
            }
        }

        private void comeTo(int state, int way) {
            if (!State.exists(state) || cameBy[state] == runs || length >= State.ALL) {
                return;
            }
            cameBy[state] = runs;
            from[state] = way;
            order[length] = state;
            length++;
        }

        int howManyWith(int goal) {
            int all = 0;
            for (int i = 0; i < length && i < State.ALL; i++) {
                all += Goal.isSo(goal, order[i]) ? 1 : 0;
            }
            return all;
        }

        /** The rows of THINGS of all STATES of this run, a bit for each. */
        int rowsOfThings() {
            int rows = 0;
            for (int i = 0; i < length && i < State.ALL; i++) {
                rows |= 1 << State.thingsOf(order[i]);
            }
            return rows;
        }

        int stepsTo(int end) {
            int state = end;
            for (int steps = 0; steps < State.ALL && State.exists(state); steps++) {
                if (from[state] < 0) {
                    return steps;
                }
                state = from[state] >> ACT_BITS;
            }
            return NONE;
        }

        int stepOnWayTo(int end, int i) {
            int steps = stepsTo(end);
            if (i < 0 || i >= steps) {
                return NONE;
            }
            int state = end;
            for (int last = steps - 1; last > i && State.exists(state); last--) {
                state = from[state] >> ACT_BITS;
            }
            return State.exists(state) ? from[state] & ((1 << ACT_BITS) - 1) : NONE;
        }

        boolean isMarked(int state, int bit) {
            return State.exists(state) && ((marks[state] >> bit) & 1) == 1;
        }

        private void mark(int state, int bit) {
            if (State.exists(state)) {
                marks[state] |= 1 << bit;
            }
        }

        /** Bit 0 of the marks of all STATES of this run: the GOAL is so (or is not); the other bits are gone. */
        private void markAll(int goal, boolean so) {
            for (int i = 0; i < length && i < State.ALL; i++) {
                int state = order[i];
                if (State.exists(state)) {
                    marks[state] = Goal.isSo(goal, state) == so ? 1 : 0;
                }
            }
        }

        int firstUnmarked() {
            for (int i = 0; i < length && i < State.ALL; i++) {
                if (!isMarked(order[i], 0)) {
                    return order[i];
                }
            }
            return NONE;
        }

        /** The least ACT that the sight lists to a STATE with the mark (or without it); NONE. */
        int firstActTo(Sight sight, int bit, boolean marked) {
            for (int i = 0; i < sight.howManyMay() && i < Act.ALL; i++) {
                if (isMarked(sight.mayComeTo(i), bit) == marked) {
                    return sight.mayDo(i);
                }
            }
            return NONE;
        }

        /** Marks the STATES of this run from which one is reached in which the GOAL is not so. */
        void markEscapes(int goal, Sight sight) {
            markAll(goal, false);
            boolean changed = true;
            for (int pass = 0; changed && pass < State.ALL; pass++) {
                changed = false;
                // From the last one back: marks mostly spread against the way in which states were come to.
                for (int i = length - 1; i >= 0 && i < State.ALL; i--) {
                    changed |= markIfItEscapes(order[i], sight);
                }
            }
        }

        private boolean markIfItEscapes(int state, Sight sight) {
            if (isMarked(state, 0)) {
                return false;
            }
            sight.list(state);
            if (firstActTo(sight, 0, true) == NONE) {
                return false;
            }
            mark(state, 0);
            return true;
        }

        /**
         * Bit n of a mark: the one is SURE of the GOAL while n moves are left. The last move is the other's, so
         * the one moves while an even number is left.
         */
        void markSure(int goal, int turns, Sight one, Sight other) {
            markAll(goal, true);
            for (int left = 1; left <= 2 * turns; left++) {
                int done = 2 * turns - left;
                int many = done >= 0 && done < within.length ? within[done] : 0;
                for (int i = 0; i < many && i < State.ALL; i++) {
                    boolean sure = left % 2 == 0 ? canGo(order[i], left - 1, one) : mustGo(order[i], left - 1, other);
                    if (sure) {
                        mark(order[i], left);
                    }
                }
            }
        }

        /** Whether one can stay at or go to a STATE with the mark. */
        private boolean canGo(int state, int bit, Sight one) {
            if (isMarked(state, bit)) {
                return true;
            }
            one.list(state);
            return firstActTo(one, bit, true) != NONE;
        }

        /** Whether the other, wherever it stays or goes, is at a STATE with the mark. */
        private boolean mustGo(int state, int bit, Sight other) {
            if (!isMarked(state, bit)) {
                return false;
            }
            other.list(state);
            return firstActTo(other, bit, false) == NONE;
        }
    }
}

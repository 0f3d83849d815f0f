import java.util.ArrayDeque;
import java.util.ArrayList;
import java.util.Arrays;
import java.util.HashMap;
import java.util.HashSet;
import java.util.LinkedHashMap;
import java.util.List;
import java.util.Map;
import java.util.Set;
import java.util.regex.Matcher;
import java.util.regex.Pattern;

/**
 * The document once more, as plainly and by other means than the class: texts by patterns, states as lists, all
 * questions by their definitions. A state is a list of nine numbers: the forms of clauses 0 .. 4, things 0 .. 3.
 */
final class PlainLaw {
    static final int UNKNOWN = -1, BAD = -2, LATE = -3, FULL = -4, NONE = -9;

    private static final String CONDITION = "(?:\\?(?:(?<thing>0?[0-3])(?<so>[+-])|=(?<clause>0?[0-4]),(?<by>0?[0-3])))?";
    private static final String MANY = "0[1-9]|[1-9][0-9]?";
    private static final Pattern FORM = Pattern.compile("(?:(?<putter>[CS])(?<b1>0?[0-2]),(?<q1>" + MANY
            + "),(?<c1>0?[0-4])|D(?<b2>0?[0-2]),(?<q2>" + MANY + "),(?<t2>0?[0-3])(?<sign>[+-])|B(?<c3>0?[0-4])"
            + "|V(?<b4>0?[0-2]),(?<g4>0?[0-3]),(?<s4>" + MANY + "))" + CONDITION, Pattern.DOTALL);
    private static final Pattern TOO_LITTLE = Pattern.compile(
            "(?:[CSD]0?[0-2],|V0?[0-2],0?[0-3],)(?<zero>00|0[^0-9]).*", Pattern.DOTALL);

    /** A form: its six parts as about() tells them. */
    private record Form(int[] part) {
    }

    private final StringBuilder text = new StringBuilder();
    private final List<List<Form>> forms = new ArrayList<>();
    private final int[][] seats = new int[3][4];
    private List<Integer> state = List.of(0, 0, 0, 0, 0, 0, 0, 0, 0);
    private final List<int[]> roll = new ArrayList<>();
    private final Map<Integer, List<Integer>> slots = new HashMap<>();

    PlainLaw() {
        for (int clause = 0; clause < 5; clause++) {
            forms.add(new ArrayList<>());
        }
    }

    // ---- texts, forms

    int write(int n, long v) {
        if (n < 1 || n > 8) {
            return BAD;
        }
        if (text.length() + n > 20) {
            return FULL;
        }
        for (int i = n - 1; i >= 0; i--) {
            text.append((char) (v >> 8 * i & 0xff));
        }
        return text.length();
    }

    int wipe() {
        int was = text.length();
        text.setLength(0);
        return was;
    }

    int fault() {
        if (FORM.matcher(text).matches()) {
            return NONE;
        }
        for (int end = 1; end <= text.length(); end++) {
            String beginning = text.substring(0, end);
            Matcher form = FORM.matcher(beginning);
            if (!form.matches() && !form.hitEnd()) {
                Matcher little = TOO_LITTLE.matcher(beginning);
                return little.matches() ? little.start("zero") : end - 1;
            }
        }
        return text.length();
    }

    int form(int clause) {
        if (clause < 0 || clause > 4) {
            return UNKNOWN;
        }
        Matcher m = FORM.matcher(text);
        if (!m.matches()) {
            return LATE;
        }
        if (forms.get(clause).size() == 3) {
            return FULL;
        }
        forms.get(clause).add(new Form(partsOf(m)));
        return forms.get(clause).size();
    }

    private static int number(Matcher m, String name) {
        return Integer.parseInt(m.group(name));
    }

    private static int[] partsOf(Matcher m) {
        int hangs = NONE;
        if (m.group("thing") != null) {
            hangs = 10 * number(m, "thing") + (m.group("so").equals("+") ? 1 : 0);
        } else if (m.group("clause") != null) {
            hangs = 100 + 10 * number(m, "clause") + number(m, "by");
        }
        if (m.group("putter") != null) {
            int letter = m.group("putter").equals("C") ? 0 : 1;
            return new int[] {letter, number(m, "b1"), number(m, "q1"), number(m, "c1"), NONE, hangs};
        }
        if (m.group("b2") != null) {
            int sign = m.group("sign").equals("+") ? 1 : 0;
            return new int[] {2, number(m, "b2"), number(m, "q2"), number(m, "t2"), sign, hangs};
        }
        if (m.group("c3") != null) {
            return new int[] {3, number(m, "c3"), NONE, NONE, NONE, hangs};
        }
        return new int[] {4, number(m, "b4"), number(m, "g4"), number(m, "s4"), NONE, hangs};
    }

    int unform(int clause) {
        if (clause < 0 || clause > 4) {
            return UNKNOWN;
        }
        int had = forms.get(clause).size();
        forms.get(clause).clear();
        state = with(state, clause, 0);
        return had;
    }

    int about(int clause, int form, int what) {
        if (clause < 0 || clause > 4 || form < 1 || form > forms.get(clause).size()) {
            return UNKNOWN;
        }
        return what < 0 || what > 5 ? BAD : forms.get(clause).get(form - 1).part[what];
    }

    int seats(int body, int group, int n) {
        if (body < 0 || body > 2 || group < 0 || group > 3) {
            return UNKNOWN;
        }
        if (n < 0 || n > 99) {
            return BAD;
        }
        int was = seats[body][group];
        seats[body][group] = n;
        return was;
    }

    // ---- the state

    private static List<Integer> with(List<Integer> state, int place, int value) {
        List<Integer> next = new ArrayList<>(state);
        next.set(place, value);
        return next;
    }

    int stand(int clause, int form) {
        if (clause < 0 || clause > 4) {
            return UNKNOWN;
        }
        if (form < 0 || form > forms.get(clause).size()) {
            return BAD;
        }
        int was = state.get(clause);
        state = with(state, clause, form);
        return was;
    }

    int thing(int thing, boolean is) {
        if (thing < 0 || thing > 3) {
            return UNKNOWN;
        }
        int was = state.get(5 + thing);
        state = with(state, 5 + thing, is ? 1 : 0);
        return was;
    }

    int at(int clause) {
        return clause < 0 || clause > 4 ? UNKNOWN : state.get(clause);
    }

    private static boolean isGoal(int goal) {
        return goal >= 0 && goal < 40 && goal % 10 < 2 || goal >= 100 && goal < 150 && goal % 10 < 4;
    }

    private static boolean so(int goal, List<Integer> in) {
        return goal < 100 ? in.get(5 + goal / 10) == goal % 10 : in.get(goal / 10 - 10) == goal % 10;
    }

    /** The parts of the form by which a clause stands; null: it is struck. */
    private int[] standing(List<Integer> in, int clause) {
        int form = in.get(clause);
        return form == 0 ? null : forms.get(clause).get(form - 1).part;
    }

    private boolean inForce(List<Integer> in, int clause) {
        int[] form = standing(in, clause);
        return form != null && (form[5] == NONE || so(form[5], in));
    }

    int force(int clause) {
        return clause < 0 || clause > 4 ? UNKNOWN : inForce(state, clause) ? 1 : 0;
    }

    private int votesIn(List<Integer> in, int set, int body) {
        int votes = 0;
        for (int group = 0; group < 4; group++) {
            if ((set & 1 << group) != 0) {
                votes += seats[body][group];
                for (int clause = 0; clause < 5; clause++) {
                    int[] form = standing(in, clause);
                    if (inForce(in, clause) && form[0] == 4 && form[1] == body && form[2] == group) {
                        votes += form[3];
                    }
                }
            }
        }
        return votes;
    }

    int votes(int set, int body) {
        return set < 0 || set > 15 ? BAD : body < 0 || body > 2 ? UNKNOWN : votesIn(state, set, body);
    }

    int is(int goal) {
        return !isGoal(goal) ? BAD : so(goal, state) ? 1 : 0;
    }

    // ---- acts

    private static boolean isAct(int act) {
        return act >= 0 && act <= 430 && act % 10 == 0 && act % 100 <= 30;
    }

    private boolean isBarred(List<Integer> in, int clause, int extraBar) {
        boolean barred = clause == extraBar;
        for (int k = 0; k < 5; k++) {
            barred |= inForce(in, k) && standing(in, k)[0] == 3 && standing(in, k)[1] == clause;
        }
        return barred;
    }

    private List<Integer> after(List<Integer> in, int act) {
        int[] form = standing(in, act / 100);
        return form[0] == 2 ? with(in, 5 + form[3], form[4]) : with(in, form[3], act % 100 / 10);
    }

    private int whyNot(List<Integer> in, int set, int act, int extraBar) {
        int clause = act / 100;
        int to = act % 100 / 10;
        int[] form = standing(in, clause);
        if (form == null || form[0] > 2 || (form[0] == 0) != (to > 0)) {
            return 1;
        }
        if (form[0] == 0 && to > forms.get(form[3]).size()) {
            return 1;
        }
        if (!inForce(in, clause)) {
            return 2;
        }
        if (votesIn(in, set, form[1]) < form[2]) {
            return 3;
        }
        if (form[0] < 2 && isBarred(in, form[3], extraBar)) {
            return 4;
        }
        return after(in, act).equals(in) ? 5 : 0;
    }

    private List<Integer> lawful(List<Integer> in, int set, int extraBar) {
        List<Integer> acts = new ArrayList<>();
        for (int act = 0; act <= 430; act += 10) {
            if (isAct(act) && whyNot(in, set, act, extraBar) == 0) {
                acts.add(act);
            }
        }
        return acts;
    }

    int acts(int set) {
        return set < 0 || set > 15 ? BAD : lawful(state, set, NONE).size();
    }

    int which(int set, int i) {
        if (set < 0 || set > 15) {
            return BAD;
        }
        List<Integer> acts = lawful(state, set, NONE);
        return i < 0 || i >= acts.size() ? NONE : acts.get(i);
    }

    int why(int set, int act) {
        return set < 0 || set > 15 || !isAct(act) ? BAD : whyNot(state, set, act, NONE);
    }

    int act(int set, int act) {
        int why = why(set, act);
        if (why == 0) {
            state = after(state, act);
        }
        return why;
    }

    // ---- what can be reached

    /** All states reached, each with its row of acts: of the shortest ones the first. */
    private Map<List<Integer>, List<Integer>> reached(List<Integer> start, int set, int extraBar) {
        Map<List<Integer>, List<Integer>> rows = new LinkedHashMap<>();
        ArrayDeque<List<Integer>> open = new ArrayDeque<>();
        rows.put(start, List.of());
        open.add(start);
        while (!open.isEmpty()) {
            List<Integer> in = open.remove();
            for (int act : lawful(in, set, extraBar)) {
                List<Integer> next = after(in, act);
                List<Integer> row = new ArrayList<>(rows.get(in));
                row.add(act);
                List<Integer> known = rows.get(next);
                if (known == null) {
                    open.add(next);
                    rows.put(next, row);
                } else if (isAhead(row, known)) {
                    rows.put(next, row);
                }
            }
        }
        return rows;
    }

    private static boolean isAhead(List<Integer> row, List<Integer> other) {
        if (row.size() != other.size()) {
            return row.size() < other.size();
        }
        for (int i = 0; i < row.size(); i++) {
            if (!row.get(i).equals(other.get(i))) {
                return row.get(i) < other.get(i);
            }
        }
        return false;
    }

    private static boolean bad(int set, int goal) {
        return set < 0 || set > 15 || !isGoal(goal);
    }

    int reach(int set) {
        return set < 0 || set > 15 ? BAD : reached(state, set, NONE).size();
    }

    int among(int set, int goal) {
        if (bad(set, goal)) {
            return BAD;
        }
        int many = 0;
        for (List<Integer> in : reached(state, set, NONE).keySet()) {
            many += so(goal, in) ? 1 : 0;
        }
        return many;
    }

    private List<Integer> shortestRow(int set, int goal) {
        List<Integer> best = null;
        for (Map.Entry<List<Integer>, List<Integer>> entry : reached(state, set, NONE).entrySet()) {
            if (so(goal, entry.getKey()) && (best == null || isAhead(entry.getValue(), best))) {
                best = entry.getValue();
            }
        }
        return best;
    }

    int shortest(int set, int goal) {
        if (bad(set, goal)) {
            return BAD;
        }
        List<Integer> row = shortestRow(set, goal);
        return row == null ? NONE : row.size();
    }

    int step(int set, int goal, int i) {
        if (bad(set, goal)) {
            return BAD;
        }
        List<Integer> row = shortestRow(set, goal);
        return row == null || i < 0 || i >= row.size() ? NONE : row.get(i);
    }

    int who(int goal) {
        if (!isGoal(goal)) {
            return BAD;
        }
        int best = NONE;
        for (int set = 15; set >= 0; set--) {
            boolean fewer = best == NONE || Integer.bitCount(set) <= Integer.bitCount(best);
            if (fewer && shortestRow(set, goal) != null) {
                best = set;
            }
        }
        return best;
    }

    private boolean holds(List<Integer> from, int set, int goal, int extraBar) {
        for (List<Integer> in : reached(from, set, extraBar).keySet()) {
            if (!so(goal, in)) {
                return false;
            }
        }
        return true;
    }

    int forGood(int goal) {
        return !isGoal(goal) ? BAD : holds(state, 15, goal, NONE) ? 1 : 0;
    }

    int trap(int set, int goal) {
        if (bad(set, goal)) {
            return BAD;
        }
        int fewest = NONE;
        for (Map.Entry<List<Integer>, List<Integer>> entry : reached(state, set, NONE).entrySet()) {
            int steps = entry.getValue().size();
            if ((fewest == NONE || steps < fewest) && holds(entry.getKey(), 15, goal, NONE)) {
                fewest = steps;
            }
        }
        return fewest;
    }

    int hold(int set, int goal) {
        return bad(set, goal) ? BAD : holds(state, set, goal, NONE) ? 1 : 0;
    }

    int hangs(int set, int goal) {
        if (bad(set, goal)) {
            return BAD;
        }
        if (!holds(state, set, goal, NONE)) {
            return NONE;
        }
        int bits = 0;
        for (int clause = 0; clause < 5; clause++) {
            if (state.get(clause) > 0 && !holds(with(state, clause, 0), set, goal, NONE)) {
                bits += 1 << clause;
            }
        }
        return bits;
    }

    int remedy(int set, int goal) {
        if (bad(set, goal)) {
            return BAD;
        }
        for (int clause = 0; clause < 5; clause++) {
            if (so(goal, state) && holds(state, set, goal, clause)) {
                return clause;
            }
        }
        return NONE;
    }

    // ---- by turns, idle

    /** Whether the one makes sure of the goal, by trying all that can be played. */
    private boolean wins(List<Integer> in, int mover, int waiter, int goal, int left, Map<List<Integer>, Boolean> known) {
        if (left == 0) {
            return so(goal, in);
        }
        List<Integer> key = new ArrayList<>(in);
        key.add(left);
        Boolean before = known.get(key);
        if (before != null) {
            return before;
        }
        boolean ofOne = left % 2 == 0;
        boolean wins = wins(in, waiter, mover, goal, left - 1, known);
        for (int act : lawful(in, mover, NONE)) {
            if (wins != ofOne) {
                wins = wins(after(in, act), waiter, mover, goal, left - 1, known);
            }
        }
        known.put(key, wins);
        return wins;
    }

    int sure(int set, int other, int goal, int turns) {
        if (bad(set, goal) || other < 0 || other > 15 || turns < 1 || turns > 8) {
            return BAD;
        }
        return wins(state, set, other, goal, 2 * turns, new HashMap<>()) ? 1 : 0;
    }

    int begin(int set, int other, int goal, int turns) {
        int sure = sure(set, other, goal, turns);
        if (sure != 1 || wins(state, other, set, goal, 2 * turns - 1, new HashMap<>())) {
            return sure == BAD ? BAD : NONE;
        }
        for (int act : lawful(state, set, NONE)) {
            if (wins(after(state, act), other, set, goal, 2 * turns - 1, new HashMap<>())) {
                return act;
            }
        }
        throw new IllegalStateException("sure, but by no act");
    }

    private Set<List<Integer>> rowsOfThings(List<Integer> from, int set, int unputtable) {
        Set<List<Integer>> rows = new HashSet<>();
        Set<List<Integer>> seen = new HashSet<>(Set.of(from));
        ArrayDeque<List<Integer>> open = new ArrayDeque<>(seen);
        while (!open.isEmpty()) {
            List<Integer> in = open.remove();
            rows.add(in.subList(5, 9));
            for (int act : lawful(in, set, NONE)) {
                List<Integer> next = after(in, act);
                boolean puts = unputtable != NONE && next.get(unputtable) > 0;
                if (!puts && seen.add(next)) {
                    open.add(next);
                }
            }
        }
        return rows;
    }

    int idle(int set, int clause) {
        if (set < 0 || set > 15) {
            return BAD;
        }
        if (clause < 0 || clause > 4) {
            return UNKNOWN;
        }
        Set<List<Integer>> without = rowsOfThings(with(state, clause, 0), set, clause);
        return without.equals(rowsOfThings(state, set, NONE)) ? 1 : 0;
    }

    // ---- the roll, slots

    int roll(int set, int act) {
        if (set < 0 || set > 15 || !isAct(act)) {
            return BAD;
        }
        if (roll.size() == 20) {
            return FULL;
        }
        roll.add(new int[] {set, act});
        return roll.size();
    }

    int unroll() {
        int were = roll.size();
        roll.clear();
        return were;
    }

    int judge(boolean why) {
        List<Integer> in = state;
        for (int row = 0; row < roll.size(); row++) {
            int whyNot = whyNot(in, roll.get(row)[0], roll.get(row)[1], NONE);
            if (whyNot > 0) {
                return why ? whyNot : row;
            }
            in = after(in, roll.get(row)[1]);
        }
        return NONE;
    }

    int keep(int slot) {
        if (slot < 0 || slot > 2) {
            return UNKNOWN;
        }
        return slots.put(slot, state) == null ? 1 : 0;
    }

    int again(int slot) {
        if (slot < 0 || slot > 2) {
            return UNKNOWN;
        }
        List<Integer> back = slots.get(slot);
        if (back == null) {
            return LATE;
        }
        int otherwise = 0;
        for (int place = 0; place < 9; place++) {
            if (place < 5 && back.get(place) > forms.get(place).size()) {
                back = with(back, place, 0);
            }
            otherwise += back.get(place).equals(state.get(place)) ? 0 : 1;
        }
        state = back;
        return otherwise;
    }

    int count(int what) {
        int[] counts = {text.length(), 0, 0, 0, roll.size(), 0};
        for (int clause = 0; clause < 5; clause++) {
            counts[1] += forms.get(clause).size();
            counts[2] += state.get(clause) > 0 ? 1 : 0;
            counts[5] += inForce(state, clause) ? 1 : 0;
        }
        counts[3] = (int) state.subList(5, 9).stream().filter(is -> is == 1).count();
        return what < 0 || what > 5 ? BAD : Arrays.stream(counts).toArray()[what];
    }
}

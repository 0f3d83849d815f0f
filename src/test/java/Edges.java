import java.util.ArrayList;
import java.util.List;

/** What the tests of boundary cases share: values beyond a range, a full object, all that can be seen of one. */
final class Edges {
    static final int UNKNOWN = -1, BAD = -2, LATE = -3, FULL = -4, NONE = -9;

    /** The longest text that is a FORM: every number of two figures, and it HANGS on a CLAUSE. */
    static final String LONGEST = "D02,99,03+?=04,03";

    private Edges() {
    }

    /** A call on an object, by its answer. */
    interface Call {
        int on(SelfLaw x);
    }

    /**
     * The first values on either side of a range, the farthest ones, and such as only a mask or a cast would bring
     * into the range.
     */
    static int[] outside(int least, int most) {
        List<Integer> all = new ArrayList<>(List.of(least - 1, most + 1, least - 2, most + 2, Integer.MIN_VALUE,
                Integer.MIN_VALUE + 1, Integer.MAX_VALUE - 1, Integer.MAX_VALUE, -SelfLaw.NONE, SelfLaw.NONE));
        for (int inside : new int[] {least, most}) {
            for (int bit = 3; bit < 32; bit++) {
                all.add(inside ^ (1 << bit));
            }
            all.add(~inside);
            all.add(-inside);
        }
        return all.stream().distinct().filter(v -> v < least || v > most).mapToInt(Integer::intValue).toArray();
    }

    static boolean isGoal(int goal) {
        if (goal >= 100) {
            return goal < 150 && goal % 10 <= 3;
        }
        return goal >= 0 && goal < 40 && goal % 10 <= 1;
    }

    static boolean isAct(int act) {
        return act >= 0 && act < 500 && act % 10 == 0 && act % 100 <= 30;
    }

    /** All numbers from -210 to 1110 that are no GOAL, and those far out. */
    static int[] noGoals() {
        List<Integer> all = new ArrayList<>();
        for (int goal = -210; goal <= 1110; goal++) {
            if (!isGoal(goal)) {
                all.add(goal);
            }
        }
        for (int goal : outside(0, 149)) {
            all.add(goal);
        }
        return all.stream().distinct().mapToInt(Integer::intValue).toArray();
    }

    /** All numbers from -510 to 1110 that are no number of an ACT, and those far out. */
    static int[] noActs() {
        List<Integer> all = new ArrayList<>();
        for (int act = -510; act <= 1110; act++) {
            if (!isAct(act)) {
                all.add(act);
            }
        }
        for (int act : outside(0, 499)) {
            all.add(act);
        }
        return all.stream().distinct().mapToInt(Integer::intValue).toArray();
    }

    /**
     * An object with something in every part of it: clause 0 has three FORMS, clause 4 none; slot 2 keeps nothing;
     * every row of THE ROLL is lawful, so that each one counts; THE TEXT is the longest FORM.
     */
    static SelfLaw filled() {
        SelfLaw x = Laws.of("C0,5,1", "D0,1,1+", "V1,2,9?0-", "B4?1+");
        Laws.tell(x, 0, "S0,3,1");
        Laws.tell(x, 0, "D0,1,0+");
        Laws.tell(x, 1, "D0,1,1-");
        x.seats(0, 0, 5);
        x.seats(0, 1, 3);
        x.seats(1, 2, 7);
        x.seats(2, 3, 99);
        x.thing(2, true);
        x.keep(0);
        x.stand(3, 0);
        x.thing(3, true);
        x.keep(1);
        x.stand(3, 1);
        x.thing(3, false);
        x.roll(2, 100);
        x.roll(1, 20);
        x.roll(15, 100);
        x.roll(1, 10);
        x.wipe();
        Laws.append(x, LONGEST);
        return x;
    }

    /** The same with THE ROLL full: rows that do and undo. */
    static SelfLaw filledRoll() {
        SelfLaw x = Laws.of("D0,1,0+", "D0,1,0-");
        x.seats(0, 0, 1);
        for (int row = 0; row < 20; row++) {
            x.roll(1, 100 * (row % 2));
        }
        return x;
    }

    /** All that can be seen of an object; it is used up by that, for what is in the slots is brought back. */
    static String allOf(SelfLaw x) {
        StringBuilder all = new StringBuilder(Laws.picture(x)).append(' ').append(x.judge(true));
        all.append(" text");
        for (int clause = 4; clause >= 0; clause--) {
            int form = x.form(clause);
            all.append(' ').append(form);
            for (int what = 0; form > 0 && what <= 5; what++) {
                all.append(' ').append(x.about(clause, form, what));
            }
        }
        for (int slot = 0; slot < 3; slot++) {
            all.append(" slot ").append(x.again(slot)).append(stateOf(x));
        }
        return all.append(" roll ").append(x.unroll()).append(" text ").append(x.wipe()).toString();
    }

    static String stateOf(SelfLaw x) {
        StringBuilder all = new StringBuilder(" at");
        for (int clause = 0; clause < 5; clause++) {
            all.append(' ').append(x.at(clause));
        }
        for (int thing = 0; thing < 4; thing++) {
            all.append(' ').append(x.is(10 * thing + 1));
        }
        return all.toString();
    }
}

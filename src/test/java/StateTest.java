/** Promises 9 to 14: the state. */
public final class StateTest {
    private static final int UNKNOWN = -1, BAD = -2;
    private static final Check CHECK = new Check("StateTest");

    public static void main(String[] args) {
        stand();
        thing();
        force();
        votes();
        is();
        refusedChangesNothing();
        CHECK.end();
    }

    private static void stand() {
        SelfLaw x = new SelfLaw();
        Laws.tell(x, 2, "B0");
        Laws.tell(x, 2, "B1");
        CHECK.due("9: was struck", x.stand(2, 2), 0);
        CHECK.due("11: at", x.at(2), 2);
        CHECK.due("9: was 2", x.stand(2, 1), 2);
        CHECK.due("9: no such form", x.stand(2, 3), BAD);
        CHECK.due("9: form -1", x.stand(2, -1), BAD);
        CHECK.due("9: form 4", x.stand(2, 4), BAD);
        CHECK.due("9: clause 5", x.stand(5, 0), UNKNOWN);
        CHECK.due("9: clause -1", x.stand(-1, 0), UNKNOWN);
        CHECK.due("9: UNKNOWN ahead of BAD", x.stand(5, 9), UNKNOWN);
        CHECK.due("9: a clause without forms", x.stand(0, 1), BAD);
        CHECK.due("9: is struck again", x.stand(0, 0), 0);
        CHECK.due("11: unchanged", x.at(2), 1);
        CHECK.due("9: struck", x.stand(2, 0), 1);
        CHECK.due("11: struck", x.at(2), 0);
        CHECK.due("11: clause 5", x.at(5), UNKNOWN);
        CHECK.due("11: clause -1", x.at(-1), UNKNOWN);
        // A bar of itself is no hindrance: it stands as if it were always so.
        x = Laws.of("B0");
        CHECK.due("9: though it is barred", x.stand(0, 0), 1);
    }

    private static void thing() {
        SelfLaw x = new SelfLaw();
        CHECK.due("10: was not", x.thing(3, true), 0);
        CHECK.due("10: was so", x.thing(3, true), 1);
        CHECK.due("10: was so", x.thing(3, false), 1);
        CHECK.due("10: was not", x.thing(3, false), 0);
        CHECK.due("10: thing 4", x.thing(4, true), UNKNOWN);
        CHECK.due("10: thing -1", x.thing(-1, true), UNKNOWN);
        CHECK.due("10: nothing is so", x.count(3), 0);
        x.thing(1, true);
        CHECK.due("10: each its own", x.is(1), 0);
        CHECK.due("10: each its own", x.is(11), 1);
    }

    private static void force() {
        SelfLaw x = Laws.of("B1", "B1?2+", "B1?2-", "B1?=4,0", "");
        CHECK.due("12: hangs on nothing", x.force(0), 1);
        CHECK.due("12: thing 2 is not", x.force(1), 0);
        CHECK.due("12: thing 2 is not", x.force(2), 1);
        CHECK.due("12: clause 4 is struck", x.force(3), 1);
        CHECK.due("12: struck", x.force(4), 0);
        x.thing(2, true);
        CHECK.due("12: thing 2 is so", x.force(1), 1);
        CHECK.due("12: thing 2 is so", x.force(2), 0);
        Laws.tell(x, 4, "B0?=4,2");
        Laws.tell(x, 4, "B0?=4,2");
        x.stand(4, 1);
        CHECK.due("12: clause 4 stands", x.force(3), 0);
        CHECK.due("12: it stands by 1", x.force(4), 0);
        x.stand(4, 2);
        CHECK.due("12: it stands by 2", x.force(4), 1);
        CHECK.due("12: clause 5", x.force(5), UNKNOWN);
        CHECK.due("12: clause -1", x.force(-1), UNKNOWN);
        // It is enough that a clause stands, in force or not.
        x = Laws.of("B4?=1,1", "B4?0+");
        CHECK.due("12: hangs on what is not in force", x.force(0), 1);
    }

    private static void votes() {
        SelfLaw x = Laws.of("V1,2,10", "V1,2,5?0+", "V1,0,99", "V0,2,7", "V1,2,1");
        x.seats(1, 2, 3);
        x.seats(1, 3, 20);
        x.seats(2, 2, 50);
        CHECK.due("13: nobody", x.votes(0, 1), 0);
        CHECK.due("13: group 2", x.votes(4, 1), 14);
        CHECK.due("13: groups 2 and 3", x.votes(12, 1), 34);
        CHECK.due("13: everybody", x.votes(15, 1), 133);
        CHECK.due("13: body 0", x.votes(4, 0), 7);
        CHECK.due("13: body 2", x.votes(4, 2), 50);
        x.thing(0, true);
        CHECK.due("13: one in force more", x.votes(4, 1), 19);
        x.stand(0, 0);
        CHECK.due("13: one in force less", x.votes(4, 1), 9);
        CHECK.due("13: set 16", x.votes(16, 0), BAD);
        CHECK.due("13: set -1", x.votes(-1, 0), BAD);
        CHECK.due("13: body 3", x.votes(0, 3), UNKNOWN);
        CHECK.due("13: body -1", x.votes(0, -1), UNKNOWN);
        CHECK.due("13: BAD ahead of UNKNOWN", x.votes(16, 3), BAD);
    }

    private static void is() {
        SelfLaw x = Laws.of("", "B0", "", "", "B0");
        Laws.tell(x, 4, "B1");
        Laws.tell(x, 4, "B1");
        x.stand(4, 3);
        x.thing(2, true);
        for (int goal = -3; goal < 200; goal++) {
            int want = BAD;
            if (goal >= 0 && goal < 40 && goal % 10 <= 1) {
                want = (goal / 10 == 2) == (goal % 10 == 1) ? 1 : 0;
            } else if (goal >= 100 && goal < 150 && goal % 10 <= 3) {
                int clause = (goal - 100) / 10;
                int stands = clause == 1 ? 1 : clause == 4 ? 3 : 0;
                want = goal % 10 == stands ? 1 : 0;
            }
            CHECK.due("14: is(" + goal + ")", x.is(goal), want);
        }
        x = Laws.of("B1");
        CHECK.due("14: clause 0 is not struck", x.is(100), 0);
        CHECK.due("14: clause 0 stands", x.is(101), 1);
        x.thing(0, true);
        CHECK.due("14: thing 0 is so", x.is(0), 0);
        CHECK.due("14: is of the greatest", x.is(Integer.MAX_VALUE), BAD);
        CHECK.due("14: is of the least", x.is(Integer.MIN_VALUE), BAD);
    }

    private static void refusedChangesNothing() {
        SelfLaw x = Laws.of("C0,3,1", "D0,2,1+", "V0,1,4");
        x.seats(0, 1, 2);
        x.thing(3, true);
        x.keep(1);
        x.roll(15, 100);
        String before = Laws.picture(x);
        x.write(0, 66);
        x.write(9, 66);
        x.form(7);
        x.unform(-1);
        x.seats(0, 1, 100);
        x.stand(1, 2);
        x.thing(-1, true);
        x.act(16, 100);
        x.act(15, 5);
        x.act(0, 100);
        x.roll(15, 500);
        x.roll(16, 100);
        x.keep(3);
        x.again(0);
        x.again(3);
        CHECK.due("refused calls change nothing", Laws.picture(x).equals(before) ? 1 : 0, 1);
    }
}

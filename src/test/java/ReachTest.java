/** Promises 19 to 28: what can be reached. */
public final class ReachTest {
    private static final int BAD = -2, NONE = -9;
    private static final Check CHECK = new Check("ReachTest");

    public static void main(String[] args) {
        reachAndAmong();
        eachCallSearchesAnew();
        clauseNoughtIsNotBarred();
        allStates();
        shortest();
        firstByActs();
        who();
        forGood();
        trap();
        hold();
        hangs();
        remedy();
        badSetsAndGoals();
        CHECK.end();
    }

    private static void reachAndAmong() {
        SelfLaw x = Laws.of("D0,1,0+", "D0,1,1+", "D0,2,2+", "D0,1,0-", "");
        x.seats(0, 0, 1);
        x.seats(0, 1, 1);
        CHECK.due("19: nobody", x.reach(0), 1);
        CHECK.due("19: group 0", x.reach(1), 4);
        CHECK.due("19: groups 0 and 1", x.reach(3), 8);
        CHECK.due("20: thing 0 so", x.among(3, 1), 4);
        CHECK.due("20: thing 2 not", x.among(1, 20), 4);
        CHECK.due("20: thing 3 so", x.among(3, 31), 0);
        CHECK.due("20: clause 0 stands", x.among(3, 101), 8);
        CHECK.due("20: a form that is not there", x.among(3, 143), 0);
        CHECK.due("20: a struck clause", x.among(3, 140), 8);
        CHECK.due("19: nothing is done", x.count(3), 0);
        x.thing(1, true);
        CHECK.due("19: from the state as it is now", x.reach(1), 2);
    }

    private static void eachCallSearchesAnew() {
        SelfLaw x = Laws.of("D0,1,0+", "D0,2,0+");
        x.seats(0, 0, 1);
        x.seats(0, 1, 1);
        CHECK.due("20: with no search ahead of it", x.among(1, 1), 1);
        x.stand(0, 0);
        CHECK.due("20: by another state", x.among(1, 1), 0);
        CHECK.due("20: by another set", x.among(3, 1), 1);
        x.seats(0, 1, 0);
        CHECK.due("20: by other seats", x.among(3, 1), 0);
    }

    /** Nothing is barred but by a BAR: clause 0 neither. */
    private static void clauseNoughtIsNotBarred() {
        SelfLaw x = Laws.of("B4", "S0,1,0", "C0,1,0");
        Laws.tell(x, 0, "B3");
        x.seats(0, 0, 1);
        CHECK.due("15: strike it, put it", x.acts(1), 2);
        CHECK.due("16: put it", x.which(1, 1), 220);
        CHECK.due("17: why", x.why(1, 100), 0);
        CHECK.due("19: reach", x.reach(1), 3);
        CHECK.due("20: among", x.among(1, 100), 1);
        CHECK.due("21: shortest", x.shortest(1, 102), 1);
        CHECK.due("24: forGood", x.forGood(101), 0);
        CHECK.due("26: hold", x.hold(1, 101), 0);
        CHECK.due("27: hangs", x.hangs(1, 101), NONE);
        CHECK.due("28: remedy", x.remedy(1, 101), 0);
        CHECK.due("29: sure against the other", x.sure(0, 1, 101, 1), 0);
        CHECK.due("29: sure by the one", x.sure(1, 0, 100, 1), 1);
    }

    private static void allStates() {
        // Each clause can come to every form of the next one; the things by forms.
        SelfLaw x = new SelfLaw();
        for (int clause = 0; clause < 5; clause++) {
            int next = (clause + 1) % 5;
            Laws.tell(x, clause, "C0,1," + next);
            Laws.tell(x, clause, "S0,1," + next);
            Laws.tell(x, clause, "D0,1," + clause % 4 + (clause == 4 ? "-" : "+"));
            x.stand(clause, 1);
        }
        x.seats(0, 0, 1);
        int all = x.reach(1);
        CHECK.due("19: many", all > 1000 ? 1 : 0, 1);
        CHECK.due("19: twice the same", x.reach(1), all);
        CHECK.due("20: so or not", x.among(1, 0) + x.among(1, 1), all);
        int byForms = 0;
        for (int form = 0; form <= 3; form++) {
            byForms += x.among(1, 120 + form);
        }
        CHECK.due("20: each form or struck", byForms, all);
        CHECK.due("19: nobody", x.reach(14), 1);
    }

    private static void shortest() {
        // Thing 2 needs thing 1, which needs thing 0; clause 3 can be put to a form that does it at once.
        SelfLaw x = Laws.of("D0,1,0+", "D0,1,1+?0+", "D0,1,2+?1+", "C0,2,4", "");
        Laws.tell(x, 4, "D0,1,2+");
        x.seats(0, 0, 1);
        x.seats(0, 1, 1);
        CHECK.due("21: alone", x.shortest(1, 21), 3);
        CHECK.due("22: alone, 0", x.step(1, 21, 0), 0);
        CHECK.due("22: alone, 1", x.step(1, 21, 1), 100);
        CHECK.due("22: alone, 2", x.step(1, 21, 2), 200);
        CHECK.due("22: alone, 3", x.step(1, 21, 3), NONE);
        CHECK.due("22: ahead of the first", x.step(1, 21, -1), NONE);
        CHECK.due("21: together", x.shortest(3, 21), 2);
        CHECK.due("22: together, 0", x.step(3, 21, 0), 310);
        CHECK.due("22: together, 1", x.step(3, 21, 1), 400);
        CHECK.due("21: so already", x.shortest(3, 20), 0);
        CHECK.due("22: so already", x.step(3, 20, 0), NONE);
        CHECK.due("21: never", x.shortest(15, 31), NONE);
        CHECK.due("22: never", x.step(15, 31, 0), NONE);
        CHECK.due("21: nobody", x.shortest(0, 1), NONE);
        CHECK.due("21: nothing is done", x.count(3), 0);
    }

    private static void firstByActs() {
        // Two rows of two acts each: by clauses 2 and 0, or by 1 and 4. The first ACT decides.
        SelfLaw x = Laws.of("D0,1,3+?2+", "D0,1,1+", "D0,1,2+", "", "D0,1,3+?1+");
        x.seats(0, 0, 1);
        CHECK.due("21: two", x.shortest(1, 31), 2);
        CHECK.due("22: first", x.step(1, 31, 0), 100);
        CHECK.due("22: second", x.step(1, 31, 1), 400);
        // The same end by either order: the lower ACT first.
        x = Laws.of("D0,1,1+", "D0,1,0+", "D0,1,2+?=3,1", "B0", "C0,1,3");
        Laws.tell(x, 3, "B1");
        Laws.tell(x, 3, "B2");
        x.stand(3, 0);
        x.seats(0, 0, 1);
        CHECK.due("21: put, then do", x.shortest(1, 21), 2);
        CHECK.due("22: put", x.step(1, 21, 0), 410);
        CHECK.due("22: to any form", x.shortest(1, 133), 1);
        CHECK.due("22: to form 3", x.step(1, 133, 0), 430);
    }

    private static void who() {
        SelfLaw x = Laws.of("D0,5,0+", "D1,3,1+", "D2,1,2+", "C0,9,4", "");
        Laws.tell(x, 4, "V2,3,1");
        x.seats(0, 0, 3);
        x.seats(0, 1, 2);
        x.seats(0, 2, 2);
        x.seats(0, 3, 5);
        x.seats(1, 0, 2);
        x.seats(1, 1, 1);
        x.seats(1, 2, 1);
        CHECK.due("23: so already", x.who(20), 0);
        CHECK.due("23: one is fewer than two", x.who(1), 8);
        CHECK.due("23: the least of two pairs", x.who(11), 3);
        CHECK.due("23: by getting seats", x.who(21), 11);
        CHECK.due("23: never", x.who(31), NONE);
        x.stand(0, 0);
        x.stand(1, 0);
        Laws.tell(x, 0, "D0,12,3+");
        x.stand(0, 2);
        CHECK.due("23: all four", x.who(31), 15);
        x.stand(0, 1);
        x.stand(1, 1);
        x.seats(0, 3, 4);
        CHECK.due("23: pairs now", x.who(1), 3);
        x.seats(0, 0, 0);
        CHECK.due("23: other pairs", x.who(1), 10);
        CHECK.due("23: no goal", x.who(2), BAD);
        CHECK.due("23: no goal", x.who(-1), BAD);
    }

    private static void forGood() {
        SelfLaw x = Laws.of("D0,2,0-", "S0,1,0", "C0,3,0");
        x.seats(0, 0, 1);
        x.seats(0, 1, 1);
        x.thing(0, true);
        CHECK.due("24: two may undo it", x.forGood(1), 0);
        CHECK.due("24: nobody can bring thing 1 about", x.forGood(10), 1);
        CHECK.due("24: not so now", x.forGood(11), 0);
        x.stand(0, 0);
        CHECK.due("24: nobody has three seats", x.forGood(1), 1);
        x.seats(1, 2, 9);
        CHECK.due("24: of another body", x.forGood(1), 1);
        x.seats(0, 2, 1);
        CHECK.due("24: three put it back", x.forGood(1), 0);
        CHECK.due("24: no goal", x.forGood(9), BAD);
        CHECK.due("24: no goal", x.forGood(150), BAD);
    }

    private static void trap() {
        // Thing 0 is for good when both what undoes it and what brings that back are struck.
        SelfLaw x = Laws.of("D0,1,0+", "D0,1,0-", "S0,1,1", "C0,1,1", "S0,1,3");
        x.seats(0, 0, 1);
        x.seats(0, 1, 1);
        CHECK.due("25: do, strike, strike", x.trap(1, 1), 3);
        CHECK.due("25: nobody", x.trap(0, 1), NONE);
        CHECK.due("25: not so for good either", x.trap(1, 0), NONE);
        x.stand(3, 0);
        x.stand(1, 0);
        CHECK.due("25: do", x.trap(2, 1), 1);
        x.thing(0, true);
        CHECK.due("25: is for good", x.trap(2, 1), 0);
        CHECK.due("25: even for nobody", x.trap(0, 1), 0);
        // The one set does it, but all together must not be able to undo it.
        x = Laws.of("D0,1,0+", "D1,1,0-");
        x.seats(0, 0, 1);
        CHECK.due("25: nobody can undo it", x.trap(1, 1), 1);
        x.seats(1, 3, 1);
        CHECK.due("25: another one can undo it", x.trap(1, 1), NONE);
        CHECK.due("21: though it is reached", x.shortest(1, 1), 1);
        // A search from the state in which all is struck leaves nothing behind for one that finds none.
        x = new SelfLaw();
        CHECK.due("25: all struck", x.trap(15, 11), NONE);
        CHECK.due("25: all struck", x.trap(15, 10), 0);
        Laws.tell(x, 0, "D0,1,1+");
        x.stand(0, 1);
        CHECK.due("25: none", x.trap(15, 11), NONE);
        // Far ends: one step spoils it at the end of a long row.
        x = Laws.of("D0,1,0+", "D0,1,1+?0+", "D0,1,2+?1+", "D0,1,3-?2+");
        x.seats(0, 0, 1);
        x.thing(3, true);
        CHECK.due("25: it is lost in the end", x.trap(1, 31), NONE);
        x.thing(3, false);
        CHECK.due("25: it is lost already", x.trap(1, 30), 0);
    }

    private static void hold() {
        SelfLaw x = Laws.of("D0,2,0+", "C0,1,1", "S0,1,2", "B4");
        x.seats(0, 0, 1);
        x.seats(0, 1, 1);
        CHECK.due("26: one alone can not", x.hold(1, 0), 1);
        CHECK.due("26: two can", x.hold(3, 0), 0);
        CHECK.due("26: not so now", x.hold(1, 1), 0);
        CHECK.due("26: nobody strikes clause 1", x.hold(15, 111), 1);
        CHECK.due("26: clause 2 strikes itself", x.hold(1, 121), 0);
    }

    private static void hangs() {
        // Clause 1 bars 0, clause 2 bars 1: each of them keeps 0 from being struck by 3.
        SelfLaw x = Laws.of("D0,1,0+", "B0", "B1", "S0,1,0", "S0,1,1");
        x.seats(0, 0, 1);
        CHECK.due("27: the goal itself and both bars", x.hangs(1, 101), 7);
        CHECK.due("27: nobody can do anything", x.hangs(0, 101), 1);
        CHECK.due("27: does not hold", x.hangs(1, 0), NONE);
        CHECK.due("27: not so now", x.hangs(1, 1), NONE);
        CHECK.due("27: holds by itself", x.hangs(1, 10), 0);
        x.stand(4, 0);
        CHECK.due("27: the second bar is of no use", x.hangs(1, 101), 3);
        // Struck at first, a clause may be put back: then the goal still holds or not by what comes between.
        x = Laws.of("D0,1,0+?=1,0", "B4", "C0,1,1");
        x.seats(0, 0, 1);
        CHECK.due("27: on a clause that can come back", x.hangs(1, 0), 2);
        // On a clause that is struck nothing hangs.
        CHECK.due("27: a struck goal", x.hangs(1, 140), 0);
    }

    private static void remedy() {
        // Clause 3 can be put to a form that does it; clause 2 puts it.
        SelfLaw x = Laws.of("", "", "C0,1,3", "");
        Laws.tell(x, 3, "D0,1,0+");
        x.seats(0, 0, 1);
        CHECK.due("26: it does not hold", x.hold(1, 0), 0);
        CHECK.due("28: a bar of clause 3", x.remedy(1, 0), 3);
        CHECK.due("28: holds anyway", x.remedy(0, 0), 0);
        CHECK.due("28: not so now", x.remedy(1, 1), NONE);
        x.stand(3, 1);
        CHECK.due("28: no bar hinders doing", x.remedy(1, 0), NONE);
        // Two ways: clause 1 does it, or puts clause 0 into force; only a bar of both would do.
        x = Laws.of("", "", "C0,1,0", "C0,1,1");
        Laws.tell(x, 0, "D0,1,0+");
        Laws.tell(x, 1, "D0,1,0+");
        x.seats(0, 0, 1);
        CHECK.due("28: by no single one", x.remedy(1, 0), NONE);
        x.stand(3, 0);
        CHECK.due("28: by the least", x.remedy(1, 0), 0);
        // The bar of a clause that would have to be changed first.
        x = Laws.of("C0,1,1", "S0,1,2", "B0", "");
        Laws.tell(x, 1, "D0,1,3+");
        x.seats(0, 0, 1);
        CHECK.due("28: clause 1 must not be put", x.remedy(1, 30), 1);
    }

    private static void badSetsAndGoals() {
        SelfLaw x = new SelfLaw();
        int[] sets = {-1, 16, Integer.MIN_VALUE, Integer.MAX_VALUE};
        for (int set : sets) {
            CHECK.due("19: set " + set, x.reach(set), BAD);
            CHECK.due("20: set " + set, x.among(set, 0), BAD);
            CHECK.due("21: set " + set, x.shortest(set, 0), BAD);
            CHECK.due("22: set " + set, x.step(set, 0, 0), BAD);
            CHECK.due("25: set " + set, x.trap(set, 0), BAD);
            CHECK.due("26: set " + set, x.hold(set, 0), BAD);
            CHECK.due("27: set " + set, x.hangs(set, 0), BAD);
            CHECK.due("28: set " + set, x.remedy(set, 0), BAD);
        }
        int[] goals = {-1, -9, 2, 9, 40, 41, 99, 104, 109, 150, 1000, Integer.MIN_VALUE, Integer.MAX_VALUE};
        for (int goal : goals) {
            CHECK.due("20: goal " + goal, x.among(0, goal), BAD);
            CHECK.due("21: goal " + goal, x.shortest(0, goal), BAD);
            CHECK.due("22: goal " + goal, x.step(0, goal, 0), BAD);
            CHECK.due("23: goal " + goal, x.who(goal), BAD);
            CHECK.due("24: goal " + goal, x.forGood(goal), BAD);
            CHECK.due("25: goal " + goal, x.trap(0, goal), BAD);
            CHECK.due("26: goal " + goal, x.hold(0, goal), BAD);
            CHECK.due("27: goal " + goal, x.hangs(0, goal), BAD);
            CHECK.due("28: goal " + goal, x.remedy(0, goal), BAD);
        }
    }
}

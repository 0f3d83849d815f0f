/** Promises 29 to 31: by turns, idle clauses. */
public final class TurnsTest {
    private static final int UNKNOWN = -1, BAD = -2, NONE = -9;
    private static final Check CHECK = new Check("TurnsTest");

    public static void main(String[] args) {
        lastWord();
        otherStatesOfTheOther();
        race();
        begin();
        leastAct();
        manyTurns();
        refusals();
        idle();
        CHECK.end();
    }

    private static void lastWord() {
        // The other has the last word: what both may do and undo is the other's.
        SelfLaw x = Laws.of("D0,1,0+", "D1,1,0-");
        x.seats(0, 0, 1);
        x.seats(1, 1, 1);
        CHECK.due("29: the other undoes it", x.sure(1, 2, 1, 1), 0);
        CHECK.due("29: in eight turns as well", x.sure(1, 2, 1, 8), 0);
        CHECK.due("29: against nobody", x.sure(1, 0, 1, 1), 1);
        CHECK.due("30: against nobody", x.begin(1, 0, 1, 1), 0);
        CHECK.due("29: the other can not bring it about", x.sure(2, 2, 0, 1), 1);
        CHECK.due("29: it can", x.sure(2, 1, 0, 8), 0);
        CHECK.due("29: nothing is done", x.count(3), 0);
    }

    private static void otherStatesOfTheOther() {
        // What only the other can come to counts too: there the goal is still so, or is not.
        SelfLaw x = Laws.of("D0,1,0+", "D1,1,3+", "D1,1,2+", "D1,1,0-?3+");
        x.seats(0, 0, 1);
        x.seats(1, 1, 1);
        CHECK.due("29: the other does something else", x.sure(1, 2, 1, 1), 1);
        CHECK.due("30: at once", x.begin(1, 2, 1, 1), 0);
        CHECK.due("29: in two turns the other undoes it", x.sure(1, 2, 1, 2), 0);
        CHECK.due("29: nobody against the other", x.sure(0, 2, 10, 8), 1);
        CHECK.due("29: nobody against the other", x.sure(0, 2, 30, 1), 0);
    }

    private static void race() {
        // The one does it and strikes what undoes it: it needs both ahead of the other's turn.
        SelfLaw x = Laws.of("D0,1,0+", "D1,1,0-", "S0,1,1", "C1,1,1");
        x.seats(0, 0, 1);
        x.seats(1, 1, 1);
        CHECK.due("29: the other puts it back", x.sure(1, 2, 1, 8), 0);
        x.stand(3, 0);
        CHECK.due("29: one turn is too few", x.sure(1, 2, 1, 1), 0);
        CHECK.due("30: not sure", x.begin(1, 2, 1, 1), NONE);
        CHECK.due("29: strike, then do", x.sure(1, 2, 1, 2), 1);
        CHECK.due("30: doing it first would be undone", x.begin(1, 2, 1, 2), 200);
        CHECK.due("30: with a turn more it can wait", x.begin(1, 2, 1, 3), NONE);
        CHECK.due("29: with a turn more", x.sure(1, 2, 1, 3), 1);
    }

    private static void begin() {
        SelfLaw x = Laws.of("D0,1,0+");
        x.seats(0, 0, 1);
        CHECK.due("30: so already", x.begin(1, 2, 0, 1), NONE);
        CHECK.due("29: so already", x.sure(1, 2, 0, 1), 1);
        CHECK.due("30: at once", x.begin(1, 2, 1, 1), 0);
        CHECK.due("30: later", x.begin(1, 2, 1, 2), NONE);
        CHECK.due("30: the other does it for it, perhaps", x.begin(2, 1, 1, 1), NONE);
        CHECK.due("29: but not surely", x.sure(2, 1, 1, 1), 0);
        CHECK.due("30: nothing is done", x.count(3), 0);
    }

    private static void leastAct() {
        // Two ways to be sure: by 100 or by 300.
        SelfLaw x = Laws.of("D1,1,0+", "S0,1,0", "D0,1,3+", "S0,1,0");
        x.seats(0, 0, 1);
        x.seats(1, 1, 1);
        CHECK.due("29: strike it", x.sure(1, 2, 0, 1), 1);
        CHECK.due("30: the least", x.begin(1, 2, 0, 1), 100);
        x.stand(1, 0);
        CHECK.due("30: the other way", x.begin(1, 2, 0, 1), 300);
        // Of forms the least that helps.
        x = Laws.of("D0,1,0+", "D1,1,1+", "C0,1,1");
        Laws.tell(x, 1, "D1,1,1-");
        Laws.tell(x, 1, "D1,1,1-");
        x.seats(0, 0, 1);
        x.seats(1, 1, 1);
        CHECK.due("30: to form 2", x.begin(1, 2, 10, 1), 220);
    }

    private static void manyTurns() {
        // Four acts one behind the other, and nobody else: four turns, not three.
        SelfLaw x = Laws.of("D0,1,0+", "D0,1,1+?0+", "D0,1,2+?1+", "D0,1,3+?2+");
        x.seats(0, 0, 1);
        CHECK.due("29: three turns", x.sure(1, 0, 31, 3), 0);
        CHECK.due("29: four turns", x.sure(1, 0, 31, 4), 1);
        CHECK.due("30: four turns", x.begin(1, 0, 31, 4), 0);
        CHECK.due("30: five turns", x.begin(1, 0, 31, 5), NONE);
        CHECK.due("29: the other has the same, and helps not", x.sure(1, 1, 31, 3), 0);
        CHECK.due("29: eight turns", x.sure(1, 1, 31, 8), 1);
    }

    private static void refusals() {
        SelfLaw x = new SelfLaw();
        int[][] bad = {
            {-1, 0, 0, 1}, {16, 0, 0, 1}, {0, -1, 0, 1}, {0, 16, 0, 1}, {0, 0, 2, 1}, {0, 0, -1, 1}, {0, 0, 150, 1},
            {0, 0, 0, 0}, {0, 0, 0, 9}, {0, 0, 0, -1}, {0, 0, 0, Integer.MAX_VALUE}, {0, 0, 0, Integer.MIN_VALUE},
        };
        for (int[] b : bad) {
            String call = "(" + b[0] + ", " + b[1] + ", " + b[2] + ", " + b[3] + ")";
            CHECK.due("29: sure" + call, x.sure(b[0], b[1], b[2], b[3]), BAD);
            CHECK.due("30: begin" + call, x.begin(b[0], b[1], b[2], b[3]), BAD);
        }
    }

    private static void idle() {
        SelfLaw x = Laws.of("D0,1,0+", "D0,2,0+", "C0,1,4", "B4", "");
        Laws.tell(x, 4, "D0,1,1+");
        x.seats(0, 0, 1);
        x.seats(0, 1, 1);
        CHECK.due("31: needed", x.idle(1, 0), 0);
        CHECK.due("31: two have another way, and one of them both", x.idle(3, 1), 1);
        CHECK.due("31: for two clause 0 is still needed by nobody", x.idle(3, 0), 1);
        CHECK.due("31: what puts is barred", x.idle(1, 2), 1);
        CHECK.due("31: without the bar there is more", x.idle(1, 3), 0);
        CHECK.due("31: barred, so nothing comes of it", x.idle(1, 4), 1);
        CHECK.due("31: nobody does anything", x.idle(0, 0), 1);
        x.stand(3, 0);
        CHECK.due("31: now it puts clause 4", x.idle(1, 2), 0);
        CHECK.due("31: a struck one that can be put", x.idle(1, 4), 0);
        CHECK.due("31: a struck one that can not", x.idle(1, 3), 1);
        CHECK.due("31: nothing is changed", x.at(0), 1);
        CHECK.due("31: set 16", x.idle(16, 0), BAD);
        CHECK.due("31: set -1", x.idle(-1, 0), BAD);
        CHECK.due("31: clause 5", x.idle(0, 5), UNKNOWN);
        CHECK.due("31: clause -1", x.idle(0, -1), UNKNOWN);
        CHECK.due("31: BAD ahead of UNKNOWN", x.idle(16, 5), BAD);
        // It can be put back: struck at first only would not show that it is needed.
        x = Laws.of("D0,1,0+", "C0,1,0");
        x.seats(0, 0, 1);
        CHECK.due("31: it can not be put to a form", x.idle(1, 0), 0);
        // The row in which nothing is so counts like each other one.
        x = Laws.of("D0,1,0-");
        x.seats(0, 0, 1);
        x.thing(0, true);
        CHECK.due("31: needed to undo the only thing", x.idle(1, 0), 0);
        // More states, but of the same rows of things.
        x = Laws.of("C0,1,1", "");
        Laws.tell(x, 1, "B4");
        x.seats(0, 0, 1);
        CHECK.due("19: it is used", x.reach(1), 2);
        CHECK.due("31: but moves no thing", x.idle(1, 0), 1);
        // The same number of rows, but not the same ones.
        x = Laws.of("D0,1,0+?=1,1", "B4", "D0,1,1+?=1,0");
        x.seats(0, 0, 1);
        CHECK.due("31: other rows", x.idle(1, 1), 0);
    }
}

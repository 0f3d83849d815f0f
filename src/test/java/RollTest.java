/** Promises 32 to 37: the roll, slots, counts. */
public final class RollTest {
    private static final int UNKNOWN = -1, BAD = -2, LATE = -3, FULL = -4, NONE = -9;
    private static final Check CHECK = new Check("RollTest");

    public static void main(String[] args) {
        roll();
        judge();
        keepAndAgain();
        goneForms();
        count();
        CHECK.end();
    }

    private static void roll() {
        SelfLaw x = new SelfLaw();
        CHECK.due("33: empty", x.unroll(), 0);
        for (int row = 1; row <= 20; row++) {
            CHECK.due("32: row " + row, x.roll(row % 16, 430), row);
        }
        CHECK.due("32: a row more", x.roll(0, 0), FULL);
        CHECK.due("32: BAD ahead of FULL", x.roll(16, 0), BAD);
        CHECK.due("32: BAD ahead of FULL", x.roll(0, 40), BAD);
        CHECK.due("37: rows", x.count(4), 20);
        CHECK.due("33: twenty", x.unroll(), 20);
        CHECK.due("33: none", x.unroll(), 0);
        CHECK.due("34: none is not lawful", x.judge(false), NONE);
        CHECK.due("32: act 41", x.roll(0, 41), BAD);
        CHECK.due("32: act -10", x.roll(0, -10), BAD);
        CHECK.due("32: act 500", x.roll(0, 500), BAD);
        CHECK.due("32: set -1", x.roll(-1, 0), BAD);
        CHECK.due("32: nothing came", x.count(4), 0);
        CHECK.due("32: first again", x.roll(15, 0), 1);
    }

    private static void judge() {
        SelfLaw x = Laws.of("D0,1,0+", "D0,2,1+?0+", "C0,2,0", "V0,1,1?1+");
        Laws.tell(x, 0, "D0,3,2+");
        x.seats(0, 0, 1);
        x.seats(0, 1, 1);
        CHECK.due("34: an empty roll", x.judge(false), NONE);
        CHECK.due("34: an empty roll", x.judge(true), NONE);
        x.roll(1, 0);
        x.roll(3, 100);
        x.roll(3, 220);
        x.roll(3, 0);
        CHECK.due("34: all one behind the other", x.judge(false), NONE);
        CHECK.due("34: all one behind the other", x.judge(true), NONE);
        CHECK.due("34: nothing is done", x.count(3), 0);
        CHECK.due("34: nothing is done", x.at(0), 1);
        x.roll(3, 0);
        x.roll(0, 400);
        CHECK.due("34: the fifth", x.judge(false), 4);
        CHECK.due("34: it would be nothing new", x.judge(true), 5);
        x.thing(1, true);
        x.thing(0, true);
        CHECK.due("34: from the state as it is now", x.judge(false), 0);
        CHECK.due("34: from the state as it is now", x.judge(true), 5);
        x.thing(0, false);
        x.stand(3, 0);
        CHECK.due("34: the second", x.judge(false), 1);
        CHECK.due("34: the second is so already", x.judge(true), 5);
        x.unroll();
        x.roll(3, 100);
        CHECK.due("34: the first", x.judge(false), 0);
        CHECK.due("34: it is not in force", x.judge(true), 2);
    }

    private static void keepAndAgain() {
        SelfLaw x = Laws.of("B1", "B1", "B1", "B1", "B1");
        Laws.tell(x, 0, "B2");
        CHECK.due("35: slot 3", x.keep(3), UNKNOWN);
        CHECK.due("35: slot -1", x.keep(-1), UNKNOWN);
        CHECK.due("36: slot 3", x.again(3), UNKNOWN);
        CHECK.due("36: slot -1", x.again(-1), UNKNOWN);
        CHECK.due("36: none was kept", x.again(0), LATE);
        CHECK.due("35: first", x.keep(0), 1);
        x.stand(0, 2);
        x.stand(4, 0);
        x.thing(0, true);
        x.thing(3, true);
        CHECK.due("35: into another slot", x.keep(2), 1);
        CHECK.due("36: two clauses and two things", x.again(0), 4);
        CHECK.due("36: clause 0", x.at(0), 1);
        CHECK.due("36: clause 4", x.at(4), 1);
        CHECK.due("36: no thing", x.count(3), 0);
        CHECK.due("36: it is so now", x.again(0), 0);
        CHECK.due("36: and back", x.again(2), 4);
        CHECK.due("36: things", x.count(3), 2);
        CHECK.due("36: thing 3", x.is(31), 1);
        CHECK.due("36: slot 1 has none", x.again(1), LATE);
        CHECK.due("35: another one was kept", x.keep(0), 0);
        CHECK.due("36: so it is the new one", x.again(0), 0);
        // Seats, the text and the roll are no part of a state.
        x.seats(0, 0, 5);
        x.again(2);
        CHECK.due("36: seats stay", x.votes(1, 0), 5);
    }

    private static void goneForms() {
        SelfLaw x = Laws.of("B1", "B1");
        Laws.tell(x, 0, "B2");
        x.stand(0, 2);
        x.keep(0);
        x.unform(0);
        CHECK.due("36: a form that is gone is no difference to a struck one", x.again(0), 0);
        CHECK.due("36: struck", x.at(0), 0);
        Laws.tell(x, 0, "B3");
        x.stand(0, 1);
        CHECK.due("36: form 2 is still gone", x.again(0), 1);
        CHECK.due("36: struck", x.at(0), 0);
    }

    private static void count() {
        SelfLaw x = Laws.of("B1?0+", "C0,1,1", "", "V0,0,1?0-");
        Laws.tell(x, 2, "B1?0+");
        Laws.tell(x, 2, "B1?0");
        x.thing(1, true);
        x.thing(2, true);
        x.roll(1, 0);
        CHECK.due("37: bytes", x.count(0), 4);
        CHECK.due("37: forms", x.count(1), 4);
        CHECK.due("37: that stand", x.count(2), 3);
        CHECK.due("37: things", x.count(3), 2);
        CHECK.due("37: rows", x.count(4), 1);
        CHECK.due("37: in force", x.count(5), 2);
        x.thing(0, true);
        CHECK.due("37: clauses 0 and 1 in force", x.count(5), 2);
        x.stand(1, 0);
        CHECK.due("37: clause 0 in force", x.count(5), 1);
        CHECK.due("37: two stand", x.count(2), 2);
        CHECK.due("37: 6", x.count(6), BAD);
        CHECK.due("37: -1", x.count(-1), BAD);
    }
}

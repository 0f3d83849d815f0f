/** Promises 15 to 18: acts. */
public final class ActsTest {
    private static final int BAD = -2, NONE = -9;
    private static final Check CHECK = new Check("ActsTest");

    public static void main(String[] args) {
        actsInOrder();
        whyNot();
        ofSeveralTheFirst();
        barred();
        act();
        numbers();
        CHECK.end();
    }

    private static void actsInOrder() {
        SelfLaw x = Laws.of("C0,2,1", "S0,3,0", "D0,1,2+", "B4", "D1,1,0-");
        Laws.tell(x, 1, "B0");
        Laws.tell(x, 1, "B1");
        x.seats(0, 0, 2);
        x.seats(0, 3, 1);
        CHECK.due("15: nobody", x.acts(0), 0);
        CHECK.due("15: group 3", x.acts(8), 1);
        CHECK.due("16: group 3", x.which(8, 0), 200);
        CHECK.due("15: group 0", x.acts(1), 3);
        CHECK.due("15: groups 0 and 3", x.acts(9), 4);
        int[] want = {20, 30, 100, 200};
        for (int i = 0; i < want.length; i++) {
            CHECK.due("16: which(9, " + i + ")", x.which(9, i), want[i]);
        }
        CHECK.due("16: no fifth", x.which(9, 4), NONE);
        CHECK.due("16: far", x.which(9, Integer.MAX_VALUE), NONE);
        CHECK.due("16: ahead of the first", x.which(9, -1), NONE);
        CHECK.due("16: nobody", x.which(0, 0), NONE);
        CHECK.due("15: set 16", x.acts(16), BAD);
        CHECK.due("15: set -1", x.acts(-1), BAD);
        CHECK.due("16: set 16", x.which(16, 0), BAD);
        CHECK.due("16: set -1", x.which(-1, -1), BAD);
    }

    private static void whyNot() {
        SelfLaw x = Laws.of("C0,2,1", "S0,2,2?1+", "D0,2,0+", "B4", "V0,0,1");
        Laws.tell(x, 1, "B0");
        x.seats(0, 0, 1);
        CHECK.due("17: a change is no strike", x.why(15, 0), 1);
        CHECK.due("17: there is no form 3", x.why(15, 30), 1);
        CHECK.due("17: form 2 is there", x.why(15, 20), 0);
        CHECK.due("17: it stands by form 1", x.why(15, 10), 5);
        CHECK.due("17: a strike is no change", x.why(15, 110), 1);
        CHECK.due("17: not in force", x.why(15, 100), 2);
        CHECK.due("17: seats are enough", x.why(1, 200), 0);
        CHECK.due("17: seats are less", x.why(14, 200), 3);
        CHECK.due("17: doing is no change", x.why(15, 210), 1);
        CHECK.due("17: a bar gives no act", x.why(15, 300), 1);
        CHECK.due("17: nor a change", x.why(15, 310), 1);
        CHECK.due("17: seats give no act", x.why(15, 400), 1);
        x.thing(0, true);
        CHECK.due("17: it is so already", x.why(15, 200), 5);
        x.thing(1, true);
        CHECK.due("17: in force now", x.why(15, 100), 0);
        x.stand(2, 0);
        CHECK.due("17: a struck one gives none", x.why(15, 200), 1);
        CHECK.due("17: nothing to strike", x.why(15, 100), 5);
        x.stand(4, 0);
        CHECK.due("17: exactly one less", x.why(15, 20), 3);
        // Undoing, and bringing back what is struck.
        x = Laws.of("D0,1,3-", "C0,1,2", "S0,1,1");
        x.seats(0, 1, 1);
        CHECK.due("17: nothing to undo", x.why(2, 0), 5);
        x.thing(3, true);
        CHECK.due("17: undo", x.why(2, 0), 0);
        x.stand(2, 0);
        CHECK.due("17: put back", x.why(2, 110), 0);
    }

    private static void ofSeveralTheFirst() {
        SelfLaw x = Laws.of("C0,9,0?0+", "B0");
        CHECK.due("17: 1 ahead of all", x.why(0, 20), 1);
        CHECK.due("17: 2 ahead of 3, 4, 5", x.why(0, 10), 2);
        x.thing(0, true);
        CHECK.due("17: 3 ahead of 4, 5", x.why(0, 10), 3);
        x.seats(0, 0, 9);
        CHECK.due("17: 4 ahead of 5", x.why(1, 10), 4);
        x.stand(1, 0);
        CHECK.due("17: 5", x.why(1, 10), 5);
    }

    private static void barred() {
        SelfLaw x = Laws.of("S0,1,1", "B1", "D0,1,1+", "S0,1,3", "B3?0+");
        x.seats(0, 0, 1);
        CHECK.due("17: a bar bars itself", x.why(1, 0), 4);
        CHECK.due("17: a thing of the same number is not barred", x.why(1, 200), 0);
        CHECK.due("17: a bar not in force", x.why(1, 300), 0);
        x.thing(0, true);
        CHECK.due("17: a bar in force", x.why(1, 300), 4);
        Laws.tell(x, 1, "B2");
        x.stand(1, 2);
        CHECK.due("17: a bar of another one", x.why(1, 0), 0);
        // A barred clause still acts.
        x = Laws.of("D0,1,1+", "B0");
        x.seats(0, 0, 1);
        CHECK.due("17: barred, it may still be used", x.why(1, 0), 0);
    }

    private static void act() {
        SelfLaw x = Laws.of("C0,1,1", "D0,1,1+", "S0,1,1", "D0,1,1-", "D0,2,0+");
        Laws.tell(x, 1, "D0,1,2+");
        x.seats(0, 0, 1);
        CHECK.due("18: do", x.act(1, 100), 0);
        CHECK.due("18: done", x.is(11), 1);
        CHECK.due("18: not again", x.act(1, 100), 5);
        CHECK.due("18: change", x.act(1, 20), 0);
        CHECK.due("18: changed", x.at(1), 2);
        CHECK.due("18: do the new one", x.act(1, 100), 0);
        CHECK.due("18: done", x.count(3), 2);
        CHECK.due("18: undo", x.act(1, 300), 0);
        CHECK.due("18: undone", x.is(10), 1);
        CHECK.due("18: the other is still so", x.is(21), 1);
        CHECK.due("18: strike", x.act(1, 200), 0);
        CHECK.due("18: struck", x.at(1), 0);
        CHECK.due("18: too few", x.act(1, 400), 3);
        CHECK.due("18: not done", x.is(1), 0);
        CHECK.due("18: put back", x.act(1, 10), 0);
        CHECK.due("18: it stands", x.at(1), 1);
        CHECK.due("18: set 16", x.act(16, 100), BAD);
        CHECK.due("18: set -1", x.act(-1, 100), BAD);
        CHECK.due("18: nothing done", x.is(10), 1);
    }

    private static void numbers() {
        SelfLaw x = Laws.of("C0,1,1", "S0,1,1", "D0,1,1+", "B1", "V0,0,5");
        for (int act = -120; act < 620; act++) {
            if (act % 100 == 0) {
                // An object is good for 512 calls.
                x = Laws.of("C0,1,1", "S0,1,1", "D0,1,1+", "B1", "V0,0,5");
            }
            boolean is = act >= 0 && act < 500 && act % 10 == 0 && act % 100 <= 30;
            CHECK.due("17: why(15, " + act + ") is BAD", x.why(15, act) == BAD ? 1 : 0, is ? 0 : 1);
            if (!is) {
                CHECK.due("18: act(15, " + act + ")", x.act(15, act), BAD);
            }
        }
        CHECK.due("17: the greatest", x.why(15, Integer.MAX_VALUE), BAD);
        CHECK.due("17: the least", x.why(15, Integer.MIN_VALUE), BAD);
        CHECK.due("17: set 16", x.why(16, 0), BAD);
        CHECK.due("17: set -1", x.why(-1, 0), BAD);
    }
}

/** The boundary cases of promises 32 to 37 and of the terms about THE ROLL and SLOTS. */
public final class EdgeRollTest {
    private static final int UNKNOWN = Edges.UNKNOWN, BAD = Edges.BAD, LATE = Edges.LATE, FULL = Edges.FULL;
    private static final int NONE = Edges.NONE;
    private static final Check CHECK = new Check("EdgeRollTest");

    public static void main(String[] args) {
        twentyRows();
        rollRefusesSets();
        rollRefusesActs();
        unroll();
        judgeNone();
        judgeEachRow();
        judgeEachReason();
        judgeOneBehindTheOther();
        keepOnEitherSide();
        eachSlotItsOwn();
        againCountsFromNoughtToNine();
        againOfGoneForms();
        slotRefusals();
        countsAreLeastAndGreatest();
        countRefusals();
        CHECK.end();
    }

    // ---- Promise 32; terms: "THE ROLL: rows of a set and an ACT (20 at most)"

    private static void twentyRows() {
        SelfLaw x = new SelfLaw();
        for (int row = 1; row <= 20; row++) {
            CHECK.due("32: row " + row, x.roll(row % 16, 100 * (row % 5) + 10 * (row % 4)), row);
            CHECK.due("37: rows", x.count(4), row);
        }
        for (int more = 0; more < 3; more++) {
            CHECK.due("32: row 21", x.roll(0, 0), FULL);
            CHECK.due("37: twenty", x.count(4), 20);
        }
        // What did not come is not judged: the roll of twenty lawful rows stays one.
        x = Edges.filledRoll();
        CHECK.due("32: a row that would not be lawful", x.roll(0, 430), FULL);
        CHECK.due("34: all are lawful", x.judge(false), NONE);
        CHECK.due("33: twenty", x.unroll(), 20);
        CHECK.due("32: the first again", x.roll(1, 0), 1);
    }

    /** "BAD; FULL." */
    private static void rollRefusesSets() {
        SelfLaw x = new SelfLaw();
        SelfLaw full = Edges.filledRoll();
        for (int set : Edges.outside(0, 15)) {
            CHECK.due("32: roll(" + set + ", 0)", x.roll(set, 0), BAD);
            CHECK.due("32: BAD ahead of FULL", full.roll(set, 0), BAD);
        }
        CHECK.due("32: no row came", x.count(4), 0);
        CHECK.due("32: no row went", full.count(4), 20);
        CHECK.due("32: set 0", x.roll(0, 430), 1);
        CHECK.due("32: set 15", x.roll(15, 430), 2);
    }

    private static void rollRefusesActs() {
        SelfLaw x = new SelfLaw();
        SelfLaw full = Edges.filledRoll();
        int calls = 0;
        for (int act : Edges.noActs()) {
            calls++;
            if (calls % 400 == 0) {
                CHECK.due("32: no row came", x.count(4), 0);
                CHECK.due("32: no row went", full.count(4), 20);
                x = new SelfLaw();
                full = Edges.filledRoll();
            }
            CHECK.due("32: roll(15, " + act + ")", x.roll(15, act), BAD);
            CHECK.due("32: BAD ahead of FULL", full.roll(15, act), BAD);
        }
        x = new SelfLaw();
        for (int i = 0; i < 20; i++) {
            CHECK.due("32: each act is taken", x.roll(0, 100 * (i / 4) + 10 * (i % 4)), i + 1);
        }
    }

    // ---- Promise 33: "THE ROLL is empty: how many there were."

    private static void unroll() {
        for (int rows = 0; rows <= 20; rows++) {
            SelfLaw x = new SelfLaw();
            for (int row = 0; row < rows; row++) {
                x.roll(0, 0);
            }
            CHECK.due("33: unroll of " + rows, x.unroll(), rows);
            CHECK.due("33: it is empty", x.count(4), 0);
            CHECK.due("34: nothing to judge", x.judge(false), NONE);
            CHECK.due("33: unrolled again", x.unroll(), 0);
        }
    }

    // ---- Promise 34: "the number of the first row (why = false), WHY NOT of it; NONE: all are lawful."

    private static void judgeNone() {
        SelfLaw x = new SelfLaw();
        CHECK.due("34: an empty roll", x.judge(false), NONE);
        CHECK.due("34: an empty roll", x.judge(true), NONE);
        x = Edges.filledRoll();
        CHECK.due("34: twenty lawful ones", x.judge(false), NONE);
        CHECK.due("34: twenty lawful ones", x.judge(true), NONE);
        CHECK.due("34: nothing is done", x.count(3), 0);
    }

    private static void judgeEachRow() {
        for (int wrong = 0; wrong < 20; wrong++) {
            SelfLaw x = Laws.of("D0,1,0+", "D0,1,0-");
            x.seats(0, 0, 1);
            for (int row = 0; row < 20; row++) {
                x.roll(row == wrong ? 0 : 1, 100 * (row % 2));
            }
            CHECK.due("34: row " + wrong, x.judge(false), wrong);
            CHECK.due("34: too few seats", x.judge(true), 3);
            CHECK.due("34: nothing is done", x.count(3), 0);
        }
    }

    private static void judgeEachReason() {
        SelfLaw x = Laws.of("C0,9,0?0+", "B0", "D0,9,1+", "D0,1,0+");
        x.seats(0, 0, 9);
        x.seats(0, 1, 1);
        int[][] rows = {{15, 20, 1}, {15, 0, 1}, {15, 410, 1}, {15, 10, 2}, {2, 200, 3}, {0, 300, 3}};
        for (int[] row : rows) {
            judgeOne(x, 0, row);
        }
        // Behind a lawful row that puts clause 0 into force.
        x.roll(2, 300);
        judgeOne(x, 1, new int[] {1, 10, 4});
        x.stand(1, 0);
        x.roll(2, 300);
        judgeOne(x, 1, new int[] {1, 10, 5});
        x.roll(2, 300);
        judgeOne(x, 1, new int[] {2, 300, 5});
    }

    private static void judgeOne(SelfLaw x, int number, int[] row) {
        CHECK.due("32: row " + number, x.roll(row[0], row[1]), number + 1);
        CHECK.due("34: the row " + row[0] + ", " + row[1], x.judge(false), number);
        CHECK.due("34: why not " + row[0] + ", " + row[1], x.judge(true), row[2]);
        x.unroll();
    }

    /** "JUDGED from THE STATE: the first that they MAY not do, one behind the other" */
    private static void judgeOneBehindTheOther() {
        SelfLaw x = Laws.of("D0,1,0+", "D1,1,1+?0+", "S0,1,0");
        x.seats(0, 0, 1);
        x.seats(1, 3, 1);
        x.roll(1, 0);
        x.roll(8, 100);
        x.roll(1, 200);
        x.roll(1, 0);
        x.roll(8, 0);
        CHECK.due("34: the first of two", x.judge(false), 3);
        CHECK.due("34: struck by the row ahead", x.judge(true), 1);
        x.thing(0, true);
        CHECK.due("34: from the state as it is now", x.judge(false), 0);
        CHECK.due("34: so already", x.judge(true), 5);
    }

    // ---- Promise 35: "THE STATE is kept: 1 (0: another one was kept there)"; terms: "SLOTS 0 .. 2"

    private static void keepOnEitherSide() {
        for (int slot = 0; slot < 3; slot++) {
            SelfLaw x = new SelfLaw();
            CHECK.due("36: nothing is kept", x.again(slot), LATE);
            CHECK.due("35: the first", x.keep(slot), 1);
            CHECK.due("36: it is kept", x.again(slot), 0);
            x.thing(3, true);
            CHECK.due("35: another one", x.keep(slot), 0);
            x.thing(3, false);
            CHECK.due("36: the last one is kept", x.again(slot), 1);
            CHECK.due("14: it is", x.is(31), 1);
            CHECK.due("36: and stays kept", x.again(slot), 0);
            CHECK.due("35: another one", x.keep(slot), 0);
        }
    }

    private static void eachSlotItsOwn() {
        SelfLaw x = new SelfLaw();
        for (int slot = 0; slot < 3; slot++) {
            for (int behind = slot; behind < 3; behind++) {
                CHECK.due("36: slot " + behind + " is empty", x.again(behind), LATE);
            }
            x.thing(slot, true);
            CHECK.due("35: slot " + slot, x.keep(slot), 1);
        }
        for (int slot = 0; slot < 3; slot++) {
            x.again(slot);
            CHECK.due("36: as many things as in slot " + slot, x.count(3), slot + 1);
        }
        CHECK.due("36: from the last to the first", x.again(0), 2);
    }

    // ---- Promise 36: "how many CLAUSES and THINGS are otherwise than now"

    private static void againCountsFromNoughtToNine() {
        SelfLaw x = Laws.of("B0", "B0", "B0", "B0", "B0");
        x.keep(0);
        int otherwise = 0;
        for (int clause = 0; clause < 5; clause++) {
            Laws.tell(x, clause, "B1");
        }
        for (int place = 0; place < 9; place++) {
            change(x, place);
            otherwise++;
            x.keep(1);
            CHECK.due("36: back by " + otherwise, x.again(0), otherwise);
            CHECK.due("36: no more", x.again(0), 0);
            CHECK.due("36: and forth by " + otherwise, x.again(1), otherwise);
        }
        for (int place = 0; place < 9; place++) {
            x.again(0);
            change(x, place);
            CHECK.due("36: place " + place + " alone", x.again(0), 1);
        }
    }

    /** Clauses 0, 2, 4 come to their second form, 1 and 3 are struck; things come about. */
    private static void change(SelfLaw x, int place) {
        if (place < 5) {
            x.stand(place, place % 2 == 0 ? 2 : 0);
        } else {
            x.thing(place - 5, true);
        }
    }

    /** "(a FORM that is gone: STRUCK)" */
    private static void againOfGoneForms() {
        for (int clause = 0; clause < 5; clause++) {
            for (int form = 1; form <= 3; form++) {
                SelfLaw x = Laws.of("B0", "B0", "B0", "B0", "B0");
                Laws.tell(x, clause, "B1");
                Laws.tell(x, clause, "B2");
                x.stand(clause, form);
                x.keep(2);
                x.unform(clause);
                CHECK.due("36: it is struck already", x.again(2), 0);
                CHECK.due("36: it stays struck", x.at(clause), 0);
                CHECK.due("36: the others stand", x.count(2), 4);
                // As many forms as leave that one out.
                for (int told = 1; told < form; told++) {
                    Laws.tell(x, clause, "B3");
                    x.stand(clause, told);
                    CHECK.due("36: form " + form + " of " + told + " is gone", x.again(2), 1);
                    CHECK.due("36: so it is struck", x.at(clause), 0);
                }
            }
        }
    }

    /** Promises 35, 36: "UNKNOWN", "UNKNOWN; LATE: none was." */
    private static void slotRefusals() {
        SelfLaw x = new SelfLaw();
        SelfLaw y = new SelfLaw();
        for (int slot = 0; slot < 3; slot++) {
            y.keep(slot);
        }
        y.thing(1, true);
        for (int slot : Edges.outside(0, 2)) {
            CHECK.due("36: again(" + slot + ")", x.again(slot), UNKNOWN);
            CHECK.due("35: keep(" + slot + ")", x.keep(slot), UNKNOWN);
            CHECK.due("35: keep(" + slot + ")", y.keep(slot), UNKNOWN);
            CHECK.due("36: again(" + slot + ")", y.again(slot), UNKNOWN);
        }
        for (int slot = 0; slot < 3; slot++) {
            CHECK.due("35: nothing was kept", x.again(slot), LATE);
        }
        CHECK.due("36: the state is as it was", y.count(3), 1);
        for (int slot = 0; slot < 3; slot++) {
            y.thing(1, true);
            CHECK.due("35: what was kept is", y.again(slot), 1);
        }
    }

    // ---- Promise 37

    private static void countsAreLeastAndGreatest() {
        SelfLaw x = new SelfLaw();
        for (int what = 0; what <= 5; what++) {
            CHECK.due("37: none, " + what, x.count(what), 0);
        }
        for (int clause = 0; clause < 5; clause++) {
            for (int form = 1; form <= 3; form++) {
                Laws.tell(x, clause, "B0?0+");
                CHECK.due("37: forms", x.count(1), 3 * clause + form);
            }
        }
        CHECK.due("37: none stands", x.count(2), 0);
        for (int clause = 0; clause < 5; clause++) {
            x.stand(clause, 3);
            CHECK.due("37: that stand", x.count(2), clause + 1);
            CHECK.due("37: none is in force", x.count(5), 0);
        }
        for (int thing = 0; thing < 4; thing++) {
            x.thing(thing, true);
            CHECK.due("37: things", x.count(3), thing + 1);
        }
        CHECK.due("37: all in force", x.count(5), 5);
        for (int clause = 0; clause < 5; clause++) {
            x.stand(clause, 0);
            CHECK.due("37: in force", x.count(5), 4 - clause);
        }
        x.wipe();
        for (int bytes = 1; bytes <= 20; bytes++) {
            x.write(1, 0);
            CHECK.due("37: bytes", x.count(0), bytes);
            x.roll(0, 0);
            CHECK.due("37: rows", x.count(4), bytes);
        }
    }

    private static void countRefusals() {
        SelfLaw x = Edges.filled();
        int[] want = {17, 7, 4, 1, 4, 3};
        for (int what = 0; what <= 5; what++) {
            CHECK.due("37: count(" + what + ")", x.count(what), want[what]);
        }
        for (int what : Edges.outside(0, 5)) {
            CHECK.due("37: count(" + what + ")", x.count(what), BAD);
        }
    }
}

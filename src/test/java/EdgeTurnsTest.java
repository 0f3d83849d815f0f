/** The boundary cases of promises 29 to 31 and of the terms about turns and idle clauses. */
public final class EdgeTurnsTest {
    private static final int UNKNOWN = Edges.UNKNOWN, BAD = Edges.BAD, NONE = Edges.NONE;
    private static final Check CHECK = new Check("EdgeTurnsTest");

    public static void main(String[] args) {
        turnsOnEitherSide();
        setsThatAreNone();
        othersThatAreNone();
        goalsThatAreNone();
        oneToEightTurns();
        heldForSevenTurns();
        theOneIsFirst();
        theOtherIsLast();
        noneMayDoNothing();
        beginByNothingIsTriedFirst();
        beginByTheLeastAct();
        nobodyAgainstNobody();
        theSameSetTwice();
        idleClauses();
        idleForNobody();
        idleCanNotBePut();
        idleIsStruckAtFirst();
        idleRowsOfThings();
        idleRefusals();
        CHECK.end();
    }

    /** Clause 2 is struck by eight ACTS one behind the other, by nothing less. */
    private static SelfLaw chainOfEight() {
        SelfLaw x = Laws.of("D0,1,0+", "C0,1,0", "D0,1,3+?2+", "", "C0,1,3?3+");
        Laws.tell(x, 0, "D0,1,1+?0+");
        Laws.tell(x, 0, "D0,1,2+?1+");
        Laws.tell(x, 3, "S0,1,2");
        x.seats(0, 0, 1);
        return x;
    }

    // ---- Terms: "so many turns each (1 .. 8)"

    private static void turnsOnEitherSide() {
        SelfLaw x = chainOfEight();
        for (int turns = 1; turns <= 8; turns++) {
            CHECK.due("29: " + turns + " turns", x.sure(1, 0, 0, turns), 1);
            CHECK.due("30: " + turns + " turns", x.begin(1, 0, 0, turns), NONE);
        }
        for (int turns : Edges.outside(1, 8)) {
            CHECK.due("29: " + turns + " turns", x.sure(1, 0, 0, turns), BAD);
            CHECK.due("30: " + turns + " turns", x.begin(1, 0, 0, turns), BAD);
        }
    }

    // ---- Promises 29, 30: "BAD"; terms: "A set is 0 .. 15 (else BAD); a GOAL that is none: BAD."

    private static void setsThatAreNone() {
        SelfLaw x = chainOfEight();
        for (int set = 0; set < 16; set++) {
            CHECK.due("29: set " + set, x.sure(set, 0, 0, 1), 1);
            CHECK.due("30: set " + set, x.begin(set, 0, 0, 1), NONE);
        }
        for (int set : Edges.outside(0, 15)) {
            CHECK.due("29: set " + set, x.sure(set, 0, 0, 1), BAD);
            CHECK.due("30: set " + set, x.begin(set, 0, 0, 1), BAD);
        }
    }

    private static void othersThatAreNone() {
        SelfLaw x = chainOfEight();
        for (int other = 0; other < 16; other++) {
            CHECK.due("29: other " + other, x.sure(0, other, 121, 1), 1);
            CHECK.due("30: other " + other, x.begin(0, other, 121, 1), NONE);
        }
        for (int other : Edges.outside(0, 15)) {
            CHECK.due("29: other " + other, x.sure(0, other, 121, 1), BAD);
            CHECK.due("30: other " + other, x.begin(0, other, 121, 1), BAD);
        }
    }

    private static void goalsThatAreNone() {
        SelfLaw x = chainOfEight();
        int calls = 0;
        for (int goal : Edges.noGoals()) {
            calls++;
            if (calls % 200 == 0) {
                x = chainOfEight();
            }
            CHECK.due("29: goal " + goal, x.sure(1, 0, goal, 1), BAD);
            CHECK.due("30: goal " + goal, x.begin(1, 0, goal, 1), BAD);
        }
        for (int goal = 0; goal < 150; goal++) {
            if (Edges.isGoal(goal)) {
                SelfLaw y = new SelfLaw();
                CHECK.due("29: goal " + goal, y.sure(15, 15, goal, 8), goal % 10 == 0 ? 1 : 0);
                CHECK.due("30: goal " + goal, y.begin(15, 15, goal, 8), NONE);
            }
        }
    }

    // ---- Terms: "The one is SURE of it, if it can do so that the GOAL is so in the end"

    private static void oneToEightTurns() {
        int[] goals = {1, 11, 21, 31, 131, 120};
        int[] acts = {1, 3, 5, 6, 7, 8};
        for (int i = 0; i < goals.length; i++) {
            SelfLaw x = chainOfEight();
            CHECK.due("21: to " + goals[i], x.shortest(1, goals[i]), acts[i]);
            for (int turns = 1; turns <= 8; turns++) {
                String game = goals[i] + " in " + turns;
                CHECK.due("29: " + game, x.sure(1, 0, goals[i], turns), turns >= acts[i] ? 1 : 0);
                // It must begin at once only if there is no turn to spare.
                CHECK.due("30: " + game, x.begin(1, 0, goals[i], turns), turns == acts[i] ? 0 : NONE);
            }
        }
        SelfLaw x = chainOfEight();
        int[] row = {0, 120, 0, 130, 0, 200, 410, 300};
        for (int done = 0; done < 8; done++) {
            CHECK.due("29: not in one less", done < 7 ? x.sure(1, 0, 120, 7 - done) : 0, 0);
            CHECK.due("29: in as many as are left", x.sure(1, 0, 120, 8 - done), 1);
            CHECK.due("30: the next one", x.begin(1, 0, 120, 8 - done), row[done]);
            CHECK.due("18: it is done", x.act(1, row[done]), 0);
        }
        CHECK.due("29: so already", x.sure(1, 0, 120, 1), 1);
        CHECK.due("30: nothing is left", x.begin(1, 0, 120, 1), NONE);
    }

    private static void heldForSevenTurns() {
        SelfLaw x = chainOfEight();
        for (int turns = 1; turns <= 8; turns++) {
            CHECK.due("29: the other strikes it in eight", x.sure(0, 1, 121, turns), turns < 8 ? 1 : 0);
            CHECK.due("30: the one does nothing", x.begin(0, 1, 121, turns), NONE);
        }
        CHECK.due("24: not for good", x.forGood(121), 0);
        CHECK.due("18: nothing was done", x.count(3), 0);
    }

    /** "From THE STATE the one does an ACT or none, then the other" */
    private static void theOneIsFirst() {
        SelfLaw x = Laws.of("D0,1,0+", "S1,1,0");
        x.seats(0, 0, 1);
        x.seats(1, 1, 1);
        CHECK.due("29: before the other strikes it", x.sure(1, 2, 1, 1), 1);
        CHECK.due("30: at once", x.begin(1, 2, 1, 1), 0);
        CHECK.due("30: at once though there are more turns", x.begin(1, 2, 1, 8), 0);
        x.stand(0, 0);
        CHECK.due("29: too late", x.sure(1, 2, 1, 8), 0);
        CHECK.due("30: too late", x.begin(1, 2, 1, 8), NONE);
    }

    private static void theOtherIsLast() {
        SelfLaw x = Laws.of("D0,1,0+", "D1,1,0-");
        x.seats(0, 0, 1);
        x.seats(1, 1, 1);
        for (int turns = 1; turns <= 8; turns++) {
            CHECK.due("29: the other undoes it last", x.sure(1, 2, 1, turns), 0);
            CHECK.due("30: the other undoes it last", x.begin(1, 2, 1, turns), NONE);
            CHECK.due("29: what the other wishes not", x.sure(2, 1, 0, turns), 0);
            CHECK.due("29: against one who can only undo", x.sure(1, 2, 0, turns), 1);
        }
    }

    /** "does an ACT or none" */
    private static void noneMayDoNothing() {
        // The only act of the one would spoil it: it does none.
        SelfLaw x = Laws.of("D0,1,0-");
        x.seats(0, 0, 1);
        x.thing(0, true);
        CHECK.due("29: by doing nothing", x.sure(1, 0, 1, 8), 1);
        CHECK.due("30: by doing nothing", x.begin(1, 0, 1, 8), NONE);
        // The only act of the other would help: it does none.
        x = Laws.of("D0,1,0+");
        x.seats(0, 0, 1);
        CHECK.due("29: the other need not help", x.sure(2, 1, 1, 8), 0);
        CHECK.due("30: the other need not help", x.begin(2, 1, 1, 8), NONE);
    }

    // ---- Promise 30: "The least ACT by which it begins (NONE: it does none, which is tried first; also if ..)"

    private static void beginByNothingIsTriedFirst() {
        SelfLaw x = Laws.of("D0,1,0+", "D0,1,1+");
        x.seats(0, 0, 1);
        CHECK.due("30: so already, an act would not hurt", x.begin(1, 0, 10, 1), NONE);
        CHECK.due("29: sure all the same", x.sure(1, 0, 10, 1), 1);
        CHECK.due("30: one turn: now", x.begin(1, 0, 11, 1), 100);
        CHECK.due("30: two turns: later", x.begin(1, 0, 11, 2), NONE);
        CHECK.due("30: not sure", x.begin(1, 0, 21, 2), NONE);
        CHECK.due("29: not sure", x.sure(1, 0, 21, 2), 0);
    }

    private static void beginByTheLeastAct() {
        SelfLaw x = Laws.of("S0,1,4", "C0,1,4", "S0,1,4", "", "D1,1,3+");
        Laws.tell(x, 4, "D1,1,2+");
        Laws.tell(x, 4, "D1,1,2+");
        x.seats(0, 0, 1);
        x.seats(1, 1, 1);
        CHECK.due("30: of four the least", x.begin(1, 2, 30, 1), 0);
        x.stand(0, 0);
        CHECK.due("30: of three the least", x.begin(1, 2, 30, 1), 120);
        x.stand(1, 0);
        CHECK.due("30: the last one", x.begin(1, 2, 30, 1), 200);
        x.stand(2, 0);
        CHECK.due("30: none", x.begin(1, 2, 30, 1), NONE);
        CHECK.due("29: none", x.sure(1, 2, 30, 1), 0);
    }

    private static void nobodyAgainstNobody() {
        SelfLaw x = chainOfEight();
        CHECK.due("29: as it is", x.sure(0, 0, 0, 8), 1);
        CHECK.due("29: it stays", x.sure(0, 0, 1, 8), 0);
        CHECK.due("30: nobody begins", x.begin(0, 0, 0, 8), NONE);
        CHECK.due("30: nobody begins", x.begin(0, 0, 1, 8), NONE);
    }

    private static void theSameSetTwice() {
        SelfLaw x = Laws.of("D0,1,0+", "D0,1,1+", "D0,1,1-");
        x.seats(0, 0, 1);
        CHECK.due("29: nothing undoes thing 0", x.sure(1, 1, 1, 1), 1);
        CHECK.due("30: nothing undoes thing 0", x.begin(1, 1, 1, 1), 0);
        CHECK.due("29: it undoes thing 1 itself", x.sure(1, 1, 11, 8), 0);
        CHECK.due("29: and brings it about itself", x.sure(1, 1, 10, 8), 0);
    }

    // ---- Promise 31; terms: "IDLE is a CLAUSE for a set"

    private static void idleClauses() {
        for (int clause = 0; clause < 5; clause++) {
            String[] forms = {"B0?3+", "B0?3+", "B0?3+", "B0?3+", "B0?3+"};
            forms[clause] = "D0,1,0+";
            SelfLaw x = Laws.of(forms);
            x.seats(0, 0, 1);
            for (int each = 0; each < 5; each++) {
                CHECK.due("31: idle(1, " + each + ")", x.idle(1, each), each == clause ? 0 : 1);
                CHECK.due("31: idle(14, " + each + ")", x.idle(14, each), 1);
            }
            x.thing(0, true);
            CHECK.due("31: what it does is done", x.idle(1, clause), 1);
        }
    }

    private static void idleForNobody() {
        SelfLaw x = new SelfLaw();
        SelfLaw y = chainOfEight();
        for (int clause = 0; clause < 5; clause++) {
            CHECK.due("31: of a new one", x.idle(15, clause), 1);
            CHECK.due("31: for nobody", y.idle(0, clause), 1);
            CHECK.due("31: for one with a seat", y.idle(1, clause), clause >= 3 ? 1 : 0);
        }
    }

    /** "and can not be put to a FORM": put back by another clause it would still do it. */
    private static void idleCanNotBePut() {
        for (int clause = 0; clause < 5; clause++) {
            int putter = (clause + 1) % 5;
            String[] forms = {"", "", "", "", ""};
            forms[clause] = "D0,1,0+";
            forms[putter] = "C0,1," + clause;
            SelfLaw x = Laws.of(forms);
            x.seats(0, 0, 1);
            CHECK.due("31: " + clause + " can not be put", x.idle(1, clause), 0);
            CHECK.due("31: what puts it is not needed", x.idle(1, putter), 1);
            x.stand(clause, 0);
            CHECK.due("31: struck, it can be put: needed", x.idle(1, clause), 0);
            CHECK.due("31: and so is what puts it", x.idle(1, putter), 0);
        }
    }

    /** "if it is STRUCK at first": none of its FORMS counts, neither that by which it stands nor another one. */
    private static void idleIsStruckAtFirst() {
        for (int clause = 0; clause < 5; clause++) {
            for (int form = 1; form <= 3; form++) {
                SelfLaw x = new SelfLaw();
                for (int told = 1; told <= 3; told++) {
                    Laws.tell(x, clause, told == form ? "D0,1,3+" : "V0,1,1");
                }
                x.seats(0, 0, 1);
                for (int stands = 0; stands <= 3; stands++) {
                    x.stand(clause, stands);
                    CHECK.due("31: form " + form + " does it", x.idle(1, clause), stands == form ? 0 : 1);
                    CHECK.due("31: it stands as it did", x.at(clause), stands);
                }
            }
        }
    }

    /** "the same rows of THINGS are in STATES that they REACH .. as are now" */
    private static void idleRowsOfThings() {
        // The rows in which nothing is so, and in which all is, count like the others.
        for (String sign : new String[] {"+", "-"}) {
            SelfLaw y = Laws.of("D0,1,3" + sign);
            for (int thing = 0; thing < 4; thing++) {
                y.thing(thing, sign.equals("-") ? thing == 3 : thing != 3);
            }
            y.seats(0, 0, 1);
            CHECK.due("31: a row more by " + sign, y.idle(1, 0), 0);
        }
        // As many rows, but others: with clause 1 thing 0, without it thing 1.
        SelfLaw x = Laws.of("D0,1,0+?=1,1", "B4", "D0,1,1+?=1,0");
        x.seats(0, 0, 1);
        CHECK.due("31: as many, but others", x.idle(1, 1), 0);
        // Without it there are more: a bar.
        x = Laws.of("C0,1,1", "", "B1");
        Laws.tell(x, 1, "D0,1,3+");
        x.seats(0, 0, 1);
        CHECK.due("31: more without it", x.idle(1, 2), 0);
        CHECK.due("31: barred as it is", x.idle(1, 0), 1);
        CHECK.due("31: barred as it is", x.idle(1, 1), 1);
        // Other states, the same rows of things.
        x = Laws.of("C0,1,1", "", "S0,1,0");
        Laws.tell(x, 1, "B4");
        x.seats(0, 0, 1);
        CHECK.due("19: states", x.reach(1), 4);
        for (int clause = 0; clause < 5; clause++) {
            CHECK.due("31: no thing by clause " + clause, x.idle(1, clause), 1);
        }
    }

    /** "BAD: set; UNKNOWN." */
    private static void idleRefusals() {
        SelfLaw x = chainOfEight();
        for (int set : Edges.outside(0, 15)) {
            CHECK.due("31: set " + set, x.idle(set, 0), BAD);
            CHECK.due("31: BAD ahead of UNKNOWN", x.idle(set, 5), BAD);
            CHECK.due("31: BAD ahead of UNKNOWN", x.idle(set, -1), BAD);
        }
        for (int clause : Edges.outside(0, 4)) {
            CHECK.due("31: clause " + clause, x.idle(0, clause), UNKNOWN);
            CHECK.due("31: clause " + clause, x.idle(15, clause), UNKNOWN);
        }
    }
}

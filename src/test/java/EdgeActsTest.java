/** The boundary cases of promises 15 to 18 and of the terms about acts. */
public final class EdgeActsTest {
    private static final int BAD = Edges.BAD, NONE = Edges.NONE;
    private static final Check CHECK = new Check("EdgeActsTest");

    public static void main(String[] args) {
        noActs();
        mostActs();
        whichOnEitherSide();
        setsThatAreNone();
        numbersOfActs();
        numbersThatAreNone();
        exactlyTheSeats();
        ofFormsTheLastOne();
        giveNoSuchAct();
        hangsOnEitherSide();
        barredOnEitherSide();
        nothingOtherwise();
        firstReasonOfAll();
        actByEachReason();
        actChangesOneAlone();
        actOnItself();
        CHECK.end();
    }

    // ---- Promises 15, 16: "How many ACTS a set MAY do.", "The i-th of them; NONE."

    private static void noActs() {
        SelfLaw x = new SelfLaw();
        for (int set = 0; set < 16; set++) {
            CHECK.due("15: acts(" + set + ") of a new one", x.acts(set), 0);
            CHECK.due("16: which(" + set + ", 0) of a new one", x.which(set, 0), NONE);
        }
        x = Laws.of("C0,1,1", "D0,1,0+", "S0,1,0");
        CHECK.due("15: nobody has a seat", x.acts(15), 0);
        CHECK.due("16: nobody has a seat", x.which(15, 0), NONE);
        x.seats(0, 3, 1);
        CHECK.due("15: the empty set has none", x.acts(0), 0);
        CHECK.due("15: nor have the others", x.acts(7), 0);
        CHECK.due("15: group 3 has", x.acts(8), 2);
        CHECK.due("15: everybody has", x.acts(15), 2);
    }

    /** More than twelve there can not be: four clauses that put the fifth, which is struck, to three forms each. */
    private static SelfLaw mostActsLaw(int struck) {
        SelfLaw x = new SelfLaw();
        x.seats(2, 1, 99);
        for (int clause = 0; clause < 5; clause++) {
            for (int form = 1; form <= 3; form++) {
                Laws.tell(x, clause, "C2,99," + struck);
            }
            x.stand(clause, clause == struck ? 0 : 3);
        }
        return x;
    }

    private static void mostActs() {
        for (int struck = 0; struck < 5; struck++) {
            SelfLaw x = mostActsLaw(struck);
            CHECK.due("15: most", x.acts(2), 12);
            int i = 0;
            for (int clause = 0; clause < 5; clause++) {
                for (int form = 1; clause != struck && form <= 3; form++) {
                    CHECK.due("16: which(2, " + i + ")", x.which(2, i), 100 * clause + 10 * form);
                    i++;
                }
            }
            CHECK.due("16: none behind the last", x.which(2, 12), NONE);
            CHECK.due("15: the others have none", x.acts(13), 0);
        }
    }

    private static void whichOnEitherSide() {
        SelfLaw x = mostActsLaw(0);
        CHECK.due("16: the first", x.which(15, 0), 110);
        CHECK.due("16: the last", x.which(15, 11), 430);
        for (int i : Edges.outside(0, 11)) {
            CHECK.due("16: which(15, " + i + ")", x.which(15, i), NONE);
        }
    }

    // ---- Terms: "A set is 0 .. 15 (else BAD)"

    private static void setsThatAreNone() {
        SelfLaw x = mostActsLaw(0);
        for (int set : Edges.outside(0, 15)) {
            CHECK.due("15: acts(" + set + ")", x.acts(set), BAD);
            CHECK.due("16: which(" + set + ", 0)", x.which(set, 0), BAD);
            CHECK.due("16: which(" + set + ", 99)", x.which(set, 99), BAD);
            CHECK.due("17: why(" + set + ", 110)", x.why(set, 110), BAD);
            CHECK.due("18: act(" + set + ", 110)", x.act(set, 110), BAD);
        }
        CHECK.due("18: nothing is changed", x.at(0), 0);
    }

    // ---- Terms: "AN ACT by a CLAUSE k: 100 k and 10 f: CHANGE to FORM f (1 .. 3); 100 k: STRIKE, DO."

    private static void numbersOfActs() {
        SelfLaw x = new SelfLaw();
        for (int clause = 0; clause < 5; clause++) {
            for (int form = 0; form <= 3; form++) {
                int act = 100 * clause + 10 * form;
                CHECK.due("17: why(0, " + act + ")", x.why(0, act), 1);
                CHECK.due("18: act(15, " + act + ")", x.act(15, act), 1);
            }
        }
    }

    /** "BAD: set, or it is no number of an ACT." */
    private static void numbersThatAreNone() {
        SelfLaw x = mostActsLaw(0);
        int calls = 0;
        for (int act : Edges.noActs()) {
            calls++;
            if (calls % 100 == 0) {
                x = mostActsLaw(0);
            }
            CHECK.due("17: why(2, " + act + ")", x.why(2, act), BAD);
            CHECK.due("18: act(2, " + act + ")", x.act(2, act), BAD);
            CHECK.due("18: it is not done", x.at(0), 0);
        }
    }

    // ---- WHY NOT 3: "they have less SEATS than it asks for"

    private static void exactlyTheSeats() {
        for (int asked : new int[] {1, 2, 50, 98, 99}) {
            for (String form : new String[] {"C1," + asked + ",4", "S1," + asked + ",3", "D1," + asked + ",0+"}) {
                SelfLaw x = Laws.of(form, "", "", "B0");
                Laws.tell(x, 4, "B0");
                int act = form.charAt(0) == 'C' ? 10 : 0;
                for (int seats = Math.max(0, asked - 2); seats <= Math.min(99, asked + 1); seats++) {
                    x.seats(1, 2, seats);
                    CHECK.due("17: " + seats + " for " + form, x.why(4, act), seats < asked ? 3 : 0);
                    CHECK.due("15: " + seats + " for " + form, x.acts(4), seats < asked ? 0 : 1);
                }
            }
        }
        // The seats of several, and those that a clause gives.
        SelfLaw x = Laws.of("D2,99,0+", "V2,3,1?1+");
        x.seats(2, 0, 40);
        x.seats(2, 1, 40);
        x.seats(2, 3, 18);
        x.seats(1, 3, 99);
        CHECK.due("17: 98 of 99", x.why(11, 0), 3);
        x.thing(1, true);
        CHECK.due("17: 99 of 99", x.why(11, 0), 0);
        CHECK.due("17: without the group that gets it", x.why(3, 0), 3);
    }

    // ---- WHY NOT 1: "there is no such FORM, or CLAUSE k gives no such ACT as it stands (or is STRUCK)"

    private static void ofFormsTheLastOne() {
        for (int many = 0; many <= 3; many++) {
            for (int target = 1; target < 5; target += 3) {
                SelfLaw x = Laws.of("C0,1," + target);
                x.seats(0, 0, 1);
                for (int form = 1; form <= many; form++) {
                    Laws.tell(x, target, "B0");
                }
                for (int form = 1; form <= 3; form++) {
                    CHECK.due("17: form " + form + " of " + many, x.why(1, 10 * form), form <= many ? 0 : 1);
                }
                CHECK.due("17: a change strikes none", x.why(1, 0), 1);
                CHECK.due("15: so many", x.acts(1), many);
            }
        }
    }

    private static void giveNoSuchAct() {
        for (int clause = 0; clause < 5; clause++) {
            int k = 100 * clause;
            SelfLaw x = new SelfLaw();
            x.seats(0, 0, 99);
            Laws.tell(x, clause, "S0,1," + clause);
            Laws.tell(x, clause, "D0,1,3+");
            Laws.tell(x, clause, "V0,0,9");
            int[] want = {1, 0, 0, 1};
            for (int stands = 0; stands <= 3; stands++) {
                x.stand(clause, stands);
                CHECK.due("17: why(1, " + k + ") by form " + stands, x.why(1, k), want[stands]);
                for (int form = 1; form <= 3; form++) {
                    CHECK.due("17: it puts nothing", x.why(1, k + 10 * form), 1);
                }
            }
            x.unform(clause);
            Laws.tell(x, clause, "B" + (clause + 1) % 5);
            x.stand(clause, 1);
            CHECK.due("17: a bar gives none", x.why(1, k), 1);
            CHECK.due("17: a bar gives none", x.why(1, k + 10), 1);
            CHECK.due("15: none", x.acts(15), 0);
        }
    }

    // ---- WHY NOT 2: "it is not IN FORCE"

    private static void hangsOnEitherSide() {
        for (String form : new String[] {"C0,1,4?2", "S0,1,3?2", "D0,1,0+?2"}) {
            int act = form.charAt(0) == 'C' ? 10 : 0;
            for (String sign : new String[] {"+", "-"}) {
                SelfLaw x = Laws.of(form + sign, "", "", "B0");
                Laws.tell(x, 4, "B0");
                x.seats(0, 0, 1);
                CHECK.due("17: thing 2 is not so", x.why(1, act), sign.equals("+") ? 2 : 0);
                x.thing(2, true);
                CHECK.due("17: thing 2 is so", x.why(1, act), sign.equals("+") ? 0 : 2);
                CHECK.due("15: by that", x.acts(1), sign.equals("+") ? 1 : 0);
            }
        }
    }

    // ---- WHY NOT 4: "the CLAUSE that it would put or strike is BARRED"; "some BAR of it is IN FORCE (its own, too)"

    private static void barredOnEitherSide() {
        for (int barred = 0; barred < 5; barred++) {
            for (int target = 0; target < 4; target++) {
                SelfLaw x = Laws.of("B4", "B4", "B4", "B4", "B" + barred + "?0+");
                int k = (target + 1) % 4;
                Laws.tell(x, k, "S0,1," + target);
                Laws.tell(x, k, "C0,1," + target);
                Laws.tell(x, target, "B4");
                x.seats(0, 0, 1);
                x.stand(k, 2);
                CHECK.due("17: no bar in force", x.why(1, 100 * k), 0);
                x.thing(0, true);
                int want = target == barred ? 4 : 0;
                CHECK.due("17: strike " + target + ", a bar of " + barred, x.why(1, 100 * k), want);
                x.stand(k, 3);
                CHECK.due("17: put " + target + ", a bar of " + barred, x.why(1, 100 * k + 20), want);
            }
        }
        SelfLaw x = Laws.of("B0", "S0,1,0", "C0,1,0", "D0,1,0+");
        Laws.tell(x, 0, "B4");
        x.seats(0, 0, 1);
        CHECK.due("17: its own bar: strike", x.why(1, 100), 4);
        CHECK.due("17: its own bar: put", x.why(1, 220), 4);
        CHECK.due("17: a thing is never barred", x.why(1, 300), 0);
        x.stand(0, 2);
        CHECK.due("17: a form that bars another one", x.why(1, 100), 0);
        CHECK.due("17: a struck bar bars nothing", x.stand(0, 0) == 2 ? x.why(1, 210) : 1, 0);
    }

    // ---- WHY NOT 5: "nothing would be otherwise"

    private static void nothingOtherwise() {
        SelfLaw x = Laws.of("C0,1,1", "", "S0,1,1", "D0,1,3+", "D0,1,3-");
        for (int form = 1; form <= 3; form++) {
            Laws.tell(x, 1, "B4?1+");
        }
        x.seats(0, 0, 1);
        for (int stands = 0; stands <= 3; stands++) {
            x.stand(1, stands);
            for (int form = 1; form <= 3; form++) {
                CHECK.due("17: put " + stands + " to " + form, x.why(1, 10 * form), form == stands ? 5 : 0);
            }
            CHECK.due("17: strike " + stands, x.why(1, 200), stands == 0 ? 5 : 0);
        }
        CHECK.due("17: bring about what is not", x.why(1, 300), 0);
        CHECK.due("17: undo what is not", x.why(1, 400), 5);
        x.thing(3, true);
        CHECK.due("17: bring about what is", x.why(1, 300), 5);
        CHECK.due("17: undo what is", x.why(1, 400), 0);
        // A form of the same text is another form all the same.
        CHECK.due("17: to a form of the same text", x.why(1, 10), 0);
    }

    /** "the first that is so": each reason with all those behind it. */
    private static void firstReasonOfAll() {
        SelfLaw x = Laws.of("C0,9,0?0+", "B0", "S0,9,3?0+", "", "B3");
        CHECK.due("17: 1 of 1 to 5: no such form", x.why(0, 20), 1);
        CHECK.due("17: 1 of 1 to 5: no such act", x.why(0, 210), 1);
        CHECK.due("17: 2 of 2 to 5, put", x.why(0, 10), 2);
        CHECK.due("17: 2 of 2 to 5, strike", x.why(0, 200), 2);
        x.thing(0, true);
        CHECK.due("17: 3 of 3 to 5, put", x.why(0, 10), 3);
        CHECK.due("17: 3 of 3 to 5, strike", x.why(0, 200), 3);
        x.seats(0, 0, 9);
        CHECK.due("17: 4 of 4 and 5, put", x.why(1, 10), 4);
        CHECK.due("17: 4 of 4 and 5, strike", x.why(1, 200), 4);
        x.stand(1, 0);
        x.stand(4, 0);
        CHECK.due("17: 5 alone, put", x.why(1, 10), 5);
        CHECK.due("17: 5 alone, strike", x.why(1, 200), 5);
        x = Laws.of("D0,9,0-?1+");
        CHECK.due("17: 2 of 2, 3, 5, do", x.why(0, 0), 2);
        x.thing(1, true);
        CHECK.due("17: 3 of 3, 5, do", x.why(0, 0), 3);
        x.seats(0, 0, 9);
        CHECK.due("17: 5 alone, do", x.why(1, 0), 5);
    }

    // ---- Promise 18: "0, or WHY NOT (nothing is changed). BAD."

    private static void actByEachReason() {
        SelfLaw x = Laws.of("C0,9,0?0+", "B0", "D0,9,1+", "S0,9,1");
        x.seats(0, 0, 9);
        x.seats(0, 1, 8);
        refusedAct(x, 1, 20, 1);
        refusedAct(x, 1, 10, 2);
        refusedAct(x, 2, 200, 3);
        x.thing(0, true);
        refusedAct(x, 1, 10, 4);
        x.stand(1, 0);
        refusedAct(x, 1, 10, 5);
        refusedAct(x, 1, 300, 5);
        CHECK.due("18: may be done", x.act(1, 200), 0);
        CHECK.due("18: is done", x.is(11), 1);
        refusedAct(x, 1, 200, 5);
    }

    private static void refusedAct(SelfLaw x, int set, int act, int why) {
        String before = Edges.stateOf(x);
        CHECK.due("18: act(" + set + ", " + act + ")", x.act(set, act), why);
        CHECK.due("18: nothing is changed", Edges.stateOf(x).equals(before) ? 1 : 0, 1);
    }

    /** An ACT that is done changes one CLAUSE or THING and nothing else. */
    private static void actChangesOneAlone() {
        SelfLaw x = Edges.filled();
        SelfLaw y = Edges.filled();
        x.act(1, 20);
        y.stand(1, 2);
        CHECK.due("18: put, and nothing else", Edges.allOf(x).equals(Edges.allOf(y)) ? 1 : 0, 1);
        x = Edges.filled();
        y = Edges.filled();
        x.act(1, 100);
        y.thing(1, true);
        CHECK.due("18: done, and nothing else", Edges.allOf(x).equals(Edges.allOf(y)) ? 1 : 0, 1);
        x = Edges.filled();
        y = Edges.filled();
        x.stand(0, 2);
        y.stand(0, 2);
        x.act(3, 0);
        y.stand(1, 0);
        CHECK.due("18: struck, and nothing else", Edges.allOf(x).equals(Edges.allOf(y)) ? 1 : 0, 1);
    }

    /** A CLAUSE may put and strike itself: then it gives what it gives as it stands now. */
    private static void actOnItself() {
        for (int clause = 0; clause < 5; clause++) {
            int k = 100 * clause;
            SelfLaw x = new SelfLaw();
            Laws.tell(x, clause, "C0,1," + clause);
            Laws.tell(x, clause, "S0,1," + clause);
            Laws.tell(x, clause, "C0,2," + clause);
            x.stand(clause, 1);
            x.seats(0, 0, 1);
            CHECK.due("15: to two other forms", x.acts(1), 2);
            CHECK.due("18: puts itself", x.act(1, k + 20), 0);
            CHECK.due("11: it stands by form 2", x.at(clause), 2);
            CHECK.due("18: it puts no more", x.act(1, k + 10), 1);
            CHECK.due("18: strikes itself", x.act(1, k), 0);
            CHECK.due("11: it is struck", x.at(clause), 0);
            CHECK.due("18: it does nothing more", x.act(1, k), 1);
            CHECK.due("15: nor does anybody", x.acts(15), 0);
            x.stand(clause, 3);
            CHECK.due("17: by form 3 it asks for two seats", x.why(1, k + 10), 3);
        }
    }
}

/** The boundary cases of promises 9 to 14 and of the terms about the state. */
public final class EdgeStateTest {
    private static final int UNKNOWN = Edges.UNKNOWN, BAD = Edges.BAD;
    private static final Check CHECK = new Check("EdgeStateTest");

    public static void main(String[] args) {
        standByEachForm();
        standByNoSuchForm();
        standRefusesClauses();
        standAsIfItWereAlwaysSo();
        things();
        thingRefusals();
        atRefusals();
        forceOnEitherSide();
        forceByEveryForm();
        forceRefusals();
        votesOfEverySet();
        votesOfMostSeats();
        votesRefusals();
        isOfEveryGoal();
        isOfAFormThatIsNotThere();
        isRefusals();
        CHECK.end();
    }

    private static SelfLaw withForms(int clause, int many) {
        SelfLaw x = new SelfLaw();
        for (int form = 1; form <= many; form++) {
            Laws.tell(x, clause, "B" + form);
        }
        return x;
    }

    // ---- Promise 9: "A CLAUSE stands by a FORM, or is STRUCK (0) ..: what it was."

    private static void standByEachForm() {
        for (int clause = 0; clause < 5; clause++) {
            SelfLaw x = withForms(clause, 3);
            int was = 0;
            for (int form : new int[] {3, 0, 1, 2, 2, 3, 1, 0, 0}) {
                CHECK.due("9: stand(" + clause + ", " + form + ")", x.stand(clause, form), was);
                CHECK.due("11: at(" + clause + ")", x.at(clause), form);
                CHECK.due("37: that stand", x.count(2), form == 0 ? 0 : 1);
                was = form;
            }
        }
    }

    /** "BAD: there is no such FORM": behind the last one that is told, and ahead of 0. */
    private static void standByNoSuchForm() {
        for (int clause = 0; clause < 5; clause++) {
            for (int many = 0; many <= 3; many++) {
                SelfLaw x = withForms(clause, many);
                x.stand(clause, many);
                for (int form : Edges.outside(0, many)) {
                    CHECK.due("9: stand(" + clause + ", " + form + ") of " + many, x.stand(clause, form), BAD);
                }
                CHECK.due("9: it stands as it did", x.at(clause), many);
                CHECK.due("9: the last one is there", x.stand(clause, many), many);
            }
        }
    }

    /** "UNKNOWN: clause; BAD": the first that is told. */
    private static void standRefusesClauses() {
        SelfLaw x = Laws.of("B0", "B0", "B0", "B0", "B0");
        for (int clause : Edges.outside(0, 4)) {
            CHECK.due("9: stand(" + clause + ", 1)", x.stand(clause, 1), UNKNOWN);
            CHECK.due("9: stand(" + clause + ", 0)", x.stand(clause, 0), UNKNOWN);
            CHECK.due("9: UNKNOWN ahead of BAD", x.stand(clause, 4), UNKNOWN);
            CHECK.due("9: UNKNOWN ahead of BAD", x.stand(clause, -1), UNKNOWN);
        }
        CHECK.due("9: all stand", x.count(2), 5);
    }

    /** No ACT: neither seats nor a BAR is asked for. */
    private static void standAsIfItWereAlwaysSo() {
        SelfLaw x = Laws.of("B0", "B0");
        Laws.tell(x, 0, "B1");
        CHECK.due("9: a barred one is put", x.stand(0, 2), 1);
        CHECK.due("9: and struck", x.stand(0, 0), 2);
        CHECK.due("9: and stands again", x.stand(0, 1), 0);
    }

    // ---- Promise 10; terms: "THINGS 0 .. 3 are so or not (not, at first)"

    private static void things() {
        for (int thing = 0; thing < 4; thing++) {
            SelfLaw x = new SelfLaw();
            CHECK.due("10: not at first", x.thing(thing, true), 0);
            CHECK.due("10: it alone is so", x.count(3), 1);
            CHECK.due("14: it is so", x.is(10 * thing + 1), 1);
            CHECK.due("10: so already", x.thing(thing, true), 1);
            CHECK.due("10: it was so", x.thing(thing, false), 1);
            CHECK.due("10: not already", x.thing(thing, false), 0);
            CHECK.due("10: none is so", x.count(3), 0);
        }
    }

    private static void thingRefusals() {
        for (boolean is : new boolean[] {true, false}) {
            SelfLaw x = new SelfLaw();
            for (int thing = 0; thing < 4; thing++) {
                x.thing(thing, !is);
            }
            for (int thing : Edges.outside(0, 3)) {
                CHECK.due("10: thing(" + thing + ", " + is + ")", x.thing(thing, is), UNKNOWN);
            }
            CHECK.due("10: as they were", x.count(3), is ? 0 : 4);
            CHECK.due("10: no clause stands", x.count(2), 0);
        }
    }

    // ---- Promise 11

    private static void atRefusals() {
        SelfLaw x = Laws.of("B0", "B0", "B0", "B0", "B0");
        for (int clause : Edges.outside(0, 4)) {
            CHECK.due("11: at(" + clause + ")", x.at(clause), UNKNOWN);
        }
        CHECK.due("11: at(0)", x.at(0), 1);
        CHECK.due("11: at(4)", x.at(4), 1);
    }

    // ---- Promise 12; terms: "IN FORCE in a STATE, if it stands and what its FORM HANGS on is so"

    private static void forceOnEitherSide() {
        for (int thing = 0; thing < 4; thing++) {
            SelfLaw x = Laws.of("B0?" + thing + "+", "B0?" + thing + "-", "B0");
            for (int other = 0; other < 4; other++) {
                x.thing(other, other != thing);
            }
            CHECK.due("12: it is not so", x.force(0), 0);
            CHECK.due("12: it is not so", x.force(1), 1);
            CHECK.due("12: hangs on nothing", x.force(2), 1);
            for (int other = 0; other < 4; other++) {
                x.thing(other, other == thing);
            }
            CHECK.due("12: it is so", x.force(0), 1);
            CHECK.due("12: it is so", x.force(1), 0);
            CHECK.due("12: hangs on nothing", x.force(2), 1);
            x.stand(0, 0);
            CHECK.due("12: a struck one never is", x.force(0), 0);
        }
    }

    /** "CLAUSE c stands by f, 0: is STRUCK": each clause, each form, its own too. */
    private static void forceByEveryForm() {
        for (int clause = 0; clause < 5; clause++) {
            int hung = (clause + 1) % 5;
            for (int form = 0; form <= 3; form++) {
                SelfLaw x = withForms(clause, 3);
                Laws.tell(x, hung, "B0?=" + clause + "," + form);
                Laws.tell(x, hung, "B0?=" + hung + "," + form);
                for (int stands = 0; stands <= 3; stands++) {
                    x.stand(clause, stands);
                    x.stand(hung, 1);
                    CHECK.due("12: hangs on clause " + clause, x.force(hung), stands == form ? 1 : 0);
                    x.stand(hung, 2);
                    CHECK.due("12: hangs on itself", x.force(hung), form == 2 ? 1 : 0);
                    x.stand(hung, 0);
                    CHECK.due("12: struck", x.force(hung), 0);
                }
            }
        }
    }

    private static void forceRefusals() {
        SelfLaw x = Laws.of("B0", "B0", "B0", "B0", "B0");
        for (int clause : Edges.outside(0, 4)) {
            CHECK.due("12: force(" + clause + ")", x.force(clause), UNKNOWN);
        }
        CHECK.due("12: force(0)", x.force(0), 1);
        CHECK.due("12: force(4)", x.force(4), 1);
    }

    // ---- Promise 13; terms: "SEATS that a set of GROUPS (bits) has in a BODY"

    private static void votesOfEverySet() {
        int[] seats = {1, 10, 40, 99};
        for (int body = 0; body < 3; body++) {
            SelfLaw x = Laws.of("V" + body + ",0,1", "V" + body + ",3,99");
            for (int group = 0; group < 4; group++) {
                x.seats(body, group, seats[group]);
                x.seats((body + 1) % 3, group, 50);
            }
            for (int set = 0; set < 16; set++) {
                int want = (set & 1) * 2 + (set >> 1 & 1) * 10 + (set >> 2 & 1) * 40 + (set >> 3 & 1) * 198;
                CHECK.due("13: votes(" + set + ", " + body + ")", x.votes(set, body), want);
            }
        }
    }

    private static void votesOfMostSeats() {
        for (int group = 0; group < 4; group++) {
            String more = "V2," + group + ",99";
            SelfLaw x = Laws.of(more, more, more, more, more);
            for (int body = 0; body < 3; body++) {
                for (int each = 0; each < 4; each++) {
                    x.seats(body, each, 99);
                }
            }
            CHECK.due("13: nobody", x.votes(0, 2), 0);
            CHECK.due("13: one", x.votes(1 << group, 2), 6 * 99);
            CHECK.due("13: everybody", x.votes(15, 2), 9 * 99);
            CHECK.due("13: all others", x.votes(15 - (1 << group), 2), 3 * 99);
            CHECK.due("13: in another body", x.votes(15, 1), 4 * 99);
        }
    }

    /** "BAD: set; UNKNOWN." */
    private static void votesRefusals() {
        SelfLaw x = new SelfLaw();
        for (int set : Edges.outside(0, 15)) {
            CHECK.due("13: votes(" + set + ", 0)", x.votes(set, 0), BAD);
            CHECK.due("13: BAD ahead of UNKNOWN", x.votes(set, 3), BAD);
            CHECK.due("13: BAD ahead of UNKNOWN", x.votes(set, -1), BAD);
        }
        for (int body : Edges.outside(0, 2)) {
            CHECK.due("13: votes(0, " + body + ")", x.votes(0, body), UNKNOWN);
            CHECK.due("13: votes(15, " + body + ")", x.votes(15, body), UNKNOWN);
        }
    }

    // ---- Promise 14; terms: "A GOAL: 10 a and b ..; 100 and 10 c and f"

    private static void isOfEveryGoal() {
        for (int state = 0; state < 64; state++) {
            SelfLaw x = withForms(0, 3);
            Laws.tell(x, 4, "B0");
            Laws.tell(x, 4, "B1");
            Laws.tell(x, 4, "B2");
            int first = state & 3;
            int last = 3 - first;
            x.stand(0, first);
            x.stand(4, last);
            for (int thing = 0; thing < 4; thing++) {
                int so = state >> (2 + thing) & 1;
                x.thing(thing, so == 1);
                CHECK.due("14: is(" + (10 * thing) + ")", x.is(10 * thing), 1 - so);
                CHECK.due("14: is(" + (10 * thing + 1) + ")", x.is(10 * thing + 1), so);
            }
            for (int form = 0; form <= 3; form++) {
                CHECK.due("14: is(" + (100 + form) + ")", x.is(100 + form), form == first ? 1 : 0);
                CHECK.due("14: is(" + (120 + form) + ")", x.is(120 + form), form == 0 ? 1 : 0);
                CHECK.due("14: is(" + (140 + form) + ")", x.is(140 + form), form == last ? 1 : 0);
            }
        }
    }

    /** "f need not be there" */
    private static void isOfAFormThatIsNotThere() {
        SelfLaw x = new SelfLaw();
        for (int clause = 0; clause < 5; clause++) {
            for (int form = 1; form <= 3; form++) {
                CHECK.due("14: a form that is not there", x.is(100 + 10 * clause + form), 0);
            }
        }
    }

    /** "a GOAL that is none: BAD" */
    private static void isRefusals() {
        SelfLaw x = new SelfLaw();
        int calls = 0;
        for (int goal : Edges.noGoals()) {
            calls++;
            if (calls % 400 == 0) {
                x = new SelfLaw();
            }
            CHECK.due("14: is(" + goal + ")", x.is(goal), BAD);
        }
    }
}

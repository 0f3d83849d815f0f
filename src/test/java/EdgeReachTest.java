/** The boundary cases of promises 19 to 28 and of the terms about what can be reached. */
public final class EdgeReachTest {
    private static final int BAD = Edges.BAD, NONE = Edges.NONE;
    private static final Check CHECK = new Check("EdgeReachTest");

    /** A law by which 13952 of the 16384 STATES are reached. */
    private static final String[][] WIDE = {
        {"S0,1,0", "D0,1,3+", "C0,1,3"}, {"C0,1,4", "D0,1,0+", "C0,1,2"}, {"C0,1,0", "C0,1,0", "S0,1,4"},
        {"S0,1,1", "C0,1,1", "S0,1,3"}, {"D0,1,1+", "D0,1,2+", "C0,1,0"},
    };
    private static final int[] WIDE_STANDS = {3, 2, 0, 3, 0};

    /** A law by which clause 3 is struck by 43 ACTS and no fewer. */
    private static final String[][] LONG = {
        {"D0,1,1+?0-", "D0,1,3+?1-", "C0,1,1?3+"}, {"C0,1,4", "C0,1,3?0+", "D0,1,1-?3-"},
        {"C0,1,4?1-", "D0,1,2+?1+", "S0,1,3?2+"}, {"C0,1,2?3+", "D0,1,3+", "C0,1,2?3+"},
        {"C0,1,0?3-", "D0,1,3-?0-", "C0,1,3?3-"},
    };
    private static final int[] LONG_STANDS = {3, 0, 2, 1, 1};

    public static void main(String[] args) {
        setsThatAreNone();
        goalsThatAreNone();
        goalsThatAreSome();
        eachClauseIsPutAndStruck();
        eachThingIsDoneAndUndone();
        theStateItselfIsReached();
        wideReach();
        amongNoneAndAll();
        shortestIsNought();
        shortestIsNone();
        longestRow();
        stepOnEitherSide();
        ofLikeRowsTheFirst();
        fewestPeopleIsEachSet();
        fewestAheadOfLeast();
        forGoodByTheLastSeat();
        trapIsNoughtOrNone();
        trapBySteps();
        trapFromWhichThereIsAWayBack();
        holdOnEitherSide();
        hangsOnAllAndOnNone();
        hangsOnlyOnWhatStands();
        remedyIsEachClause();
        remedyIsNone();
        remedyCanNotBeUndone();
        CHECK.end();
    }

    private static SelfLaw told(String[][] forms, int[] stands) {
        SelfLaw x = new SelfLaw();
        for (int clause = 0; clause < 5; clause++) {
            for (String form : forms[clause]) {
                Laws.tell(x, clause, form);
            }
            x.stand(clause, stands[clause]);
        }
        x.seats(0, 0, 1);
        return x;
    }

    private static PlainLaw plainlyTold(String[][] forms, int[] stands) {
        PlainLaw y = new PlainLaw();
        for (int clause = 0; clause < 5; clause++) {
            for (String form : forms[clause]) {
                y.wipe();
                for (int i = 0; i < form.length(); i++) {
                    y.write(1, form.charAt(i));
                }
                y.form(clause);
            }
            y.stand(clause, stands[clause]);
        }
        y.seats(0, 0, 1);
        return y;
    }

    // ---- Terms: "A set is 0 .. 15 (else BAD); a GOAL that is none: BAD."

    private static void setsThatAreNone() {
        for (int set : Edges.outside(0, 15)) {
            SelfLaw x = Laws.of("D0,1,0+");
            for (int goal : new int[] {0, 1, 143, 2}) {
                CHECK.due("20: set " + set, x.among(set, goal), BAD);
                CHECK.due("21: set " + set, x.shortest(set, goal), BAD);
                CHECK.due("22: set " + set, x.step(set, goal, 0), BAD);
                CHECK.due("25: set " + set, x.trap(set, goal), BAD);
                CHECK.due("26: set " + set, x.hold(set, goal), BAD);
                CHECK.due("27: set " + set, x.hangs(set, goal), BAD);
                CHECK.due("28: set " + set, x.remedy(set, goal), BAD);
            }
            CHECK.due("19: set " + set, x.reach(set), BAD);
        }
    }

    private static void goalsThatAreNone() {
        for (int goal : Edges.noGoals()) {
            SelfLaw x = Laws.of("D0,1,0+");
            for (int set : new int[] {0, 15, 16}) {
                CHECK.due("20: goal " + goal, x.among(set, goal), BAD);
                CHECK.due("21: goal " + goal, x.shortest(set, goal), BAD);
                CHECK.due("22: goal " + goal, x.step(set, goal, 0), BAD);
                CHECK.due("25: goal " + goal, x.trap(set, goal), BAD);
                CHECK.due("26: goal " + goal, x.hold(set, goal), BAD);
                CHECK.due("27: goal " + goal, x.hangs(set, goal), BAD);
                CHECK.due("28: goal " + goal, x.remedy(set, goal), BAD);
            }
            CHECK.due("23: goal " + goal, x.who(goal), BAD);
            CHECK.due("24: goal " + goal, x.forGood(goal), BAD);
        }
    }

    /** Each GOAL that is one, in a STATE in which nothing may be done: it is so now, or never. */
    private static void goalsThatAreSome() {
        for (int goal = 0; goal < 150; goal++) {
            if (!Edges.isGoal(goal)) {
                continue;
            }
            SelfLaw x = new SelfLaw();
            int so = goal % 10 == 0 ? 1 : 0;
            for (int set = 0; set < 16; set += 15) {
                CHECK.due("20: goal " + goal, x.among(set, goal), so);
                CHECK.due("21: goal " + goal, x.shortest(set, goal), so == 1 ? 0 : NONE);
                CHECK.due("22: goal " + goal, x.step(set, goal, 0), NONE);
                CHECK.due("25: goal " + goal, x.trap(set, goal), so == 1 ? 0 : NONE);
                CHECK.due("26: goal " + goal, x.hold(set, goal), so);
                CHECK.due("27: goal " + goal, x.hangs(set, goal), so == 1 ? 0 : NONE);
                CHECK.due("28: goal " + goal, x.remedy(set, goal), so == 1 ? 0 : NONE);
            }
            CHECK.due("23: goal " + goal, x.who(goal), so == 1 ? 0 : NONE);
            CHECK.due("24: goal " + goal, x.forGood(goal), so);
        }
    }

    // ---- Terms: "CLAUSES 0 .. 4", "THINGS 0 .. 3": the first and the last count like those between them

    private static void eachClauseIsPutAndStruck() {
        for (int clause = 0; clause < 5; clause++) {
            int striker = (clause + 1) % 5;
            int putter = (clause + 2) % 5;
            String[] forms = {"", "", "", "", ""};
            forms[clause] = "D0,1,0-";
            forms[striker] = "S0,1," + clause;
            forms[putter] = "C0,1," + clause;
            SelfLaw x = Laws.of(forms);
            Laws.tell(x, clause, "B" + putter);
            x.seats(0, 0, 1);
            x.thing(0, true);
            int goal = 100 + 10 * clause;
            CHECK.due("19: by each form and none, undone or not", x.reach(1), 6);
            CHECK.due("20: struck", x.among(1, goal), 2);
            CHECK.due("21: strike it", x.shortest(1, goal), 1);
            CHECK.due("22: strike it", x.step(1, goal, 0), 100 * striker);
            CHECK.due("22: put it", x.step(1, goal + 2, 0), 100 * putter + 20);
            CHECK.due("23: one strikes it", x.who(goal), 1);
            CHECK.due("24: it is put back", x.forGood(goal + 1), 0);
            CHECK.due("25: it is put back", x.trap(1, 1), NONE);
            CHECK.due("26: it is struck", x.hold(1, goal + 1), 0);
            CHECK.due("27: it is struck", x.hangs(1, goal + 1), NONE);
            CHECK.due("28: a bar of it", x.remedy(1, goal + 1), clause);
            CHECK.due("29: it is struck", x.sure(0, 1, goal + 1, 1), 0);
            CHECK.due("30: strike it", x.begin(1, 0, goal, 1), 100 * striker);
            x.stand(putter, 0);
            CHECK.due("25: struck for good", x.trap(1, 1), 1);
            CHECK.due("25: it too", x.trap(1, goal), 1);
            x.stand(striker, 0);
            CHECK.due("27: it hangs on itself", x.hangs(1, goal + 1), 1 << clause);
        }
    }

    private static void eachThingIsDoneAndUndone() {
        for (int thing = 0; thing < 4; thing++) {
            SelfLaw x = Laws.of("D0,1," + thing + "+", "D0,2," + thing + "-");
            x.seats(0, 0, 1);
            int goal = 10 * thing;
            CHECK.due("19: so or not", x.reach(1), 2);
            CHECK.due("20: so", x.among(1, goal + 1), 1);
            CHECK.due("21: do it", x.shortest(1, goal + 1), 1);
            CHECK.due("23: one does it", x.who(goal + 1), 1);
            CHECK.due("25: nobody undoes it", x.trap(1, goal + 1), 1);
            CHECK.due("26: it comes about", x.hold(1, goal), 0);
            x.seats(0, 1, 1);
            CHECK.due("25: both undo it", x.trap(1, goal + 1), NONE);
            x.thing(thing, true);
            CHECK.due("23: both undo it", x.who(goal), 3);
            CHECK.due("24: both undo it", x.forGood(goal + 1), 0);
            CHECK.due("26: one does not", x.hold(1, goal + 1), 1);
            CHECK.due("27: it hangs on no clause", x.hangs(2, goal + 1), 0);
        }
    }

    // ---- Promises 19, 20; terms: "REACHED by a set: THE STATE (as it is now), and all that they come to"

    private static void theStateItselfIsReached() {
        SelfLaw x = told(WIDE, WIDE_STANDS);
        for (int set = 0; set < 16; set += 2) {
            CHECK.due("19: those without seats: reach(" + set + ")", x.reach(set), 1);
            CHECK.due("20: it is this one", x.among(set, 103), 1);
            CHECK.due("20: and no other", x.among(set, 100), 0);
        }
        x = Laws.of("D0,1,0+");
        x.seats(0, 0, 1);
        for (int set = 0; set < 16; set++) {
            CHECK.due("19: one act for group 0: reach(" + set + ")", x.reach(set), 1 + set % 2);
        }
        x.thing(0, true);
        CHECK.due("19: as it is now", x.reach(1), 1);
    }

    private static void wideReach() {
        SelfLaw x = told(WIDE, WIDE_STANDS);
        PlainLaw y = plainlyTold(WIDE, WIDE_STANDS);
        CHECK.due("19: wide", x.reach(1), 13952);
        CHECK.due("19: wide", y.reach(1), 13952);
        CHECK.due("19: wide, with others who add nothing", x.reach(15), 13952);
        for (int goal : new int[] {0, 31, 100, 103, 112, 141}) {
            CHECK.due("20: among wide, " + goal, x.among(1, goal), y.among(1, goal));
        }
        CHECK.due("21: wide", x.shortest(1, 31), y.shortest(1, 31));
        CHECK.due("23: wide", x.who(31), 1);
        CHECK.due("25: wide; nothing undoes thing 3", x.trap(1, 31), y.shortest(1, 31));
        CHECK.due("28: wide", x.remedy(1, 30), y.remedy(1, 30));
    }

    private static void amongNoneAndAll() {
        SelfLaw x = told(WIDE, WIDE_STANDS);
        int all = x.reach(1);
        for (int thing = 0; thing < 4; thing++) {
            CHECK.due("20: so or not", x.among(1, 10 * thing) + x.among(1, 10 * thing + 1), all);
        }
        for (int clause = 0; clause < 5; clause++) {
            int sum = 0;
            for (int form = 0; form <= 3; form++) {
                sum += x.among(1, 100 + 10 * clause + form);
            }
            CHECK.due("20: each form or struck", sum, all);
        }
        x = Laws.of("D0,1,0+", "D0,1,1+");
        x.seats(0, 0, 1);
        CHECK.due("20: in all", x.among(1, 101), 4);
        CHECK.due("20: in none", x.among(1, 31), 0);
        CHECK.due("20: a form that is not there", x.among(1, 103), 0);
        CHECK.due("20: in half of them", x.among(1, 11), 2);
    }

    // ---- Promises 21, 22; terms: "THE SHORTEST to a GOAL: the fewest ACTS; of like ones the first by ACTS."

    private static void shortestIsNought() {
        SelfLaw x = told(LONG, LONG_STANDS);
        for (int set = 0; set < 16; set++) {
            CHECK.due("21: so already", x.shortest(set, 110), 0);
            CHECK.due("22: no first act", x.step(set, 110, 0), NONE);
            CHECK.due("22: none ahead of it", x.step(set, 110, -1), NONE);
        }
    }

    private static void shortestIsNone() {
        SelfLaw x = Laws.of("D0,2,0+", "C0,1,2");
        x.seats(0, 0, 1);
        CHECK.due("21: too few seats", x.shortest(15, 1), NONE);
        CHECK.due("22: too few seats", x.step(15, 1, 0), NONE);
        CHECK.due("21: no such form", x.shortest(15, 121), NONE);
        CHECK.due("22: no such form", x.step(15, 121, 0), NONE);
        x.seats(0, 3, 1);
        CHECK.due("21: enough", x.shortest(9, 1), 1);
        CHECK.due("22: enough", x.step(9, 1, 0), 0);
        CHECK.due("22: no second act", x.step(9, 1, 1), NONE);
    }

    private static void longestRow() {
        SelfLaw x = told(LONG, LONG_STANDS);
        PlainLaw y = plainlyTold(LONG, LONG_STANDS);
        CHECK.due("21: 43 acts", x.shortest(1, 130), 43);
        for (int i = 0; i < 43; i++) {
            CHECK.due("22: step " + i, x.step(1, 130, i), y.step(1, 130, i));
        }
        CHECK.due("22: step 43", x.step(1, 130, 43), NONE);
        // Done one behind the other they come to the goal, and not before.
        for (int left = 43; left > 0; left--) {
            CHECK.due("21: " + left + " are left", x.shortest(1, 130), left);
            CHECK.due("14: not so yet", x.is(130), 0);
            CHECK.due("18: the next one", x.act(1, x.step(1, 130, 0)), 0);
        }
        CHECK.due("14: so in the end", x.is(130), 1);
    }

    private static void stepOnEitherSide() {
        SelfLaw x = Laws.of("D0,1,0+", "D0,1,1+?0+");
        x.seats(0, 0, 1);
        CHECK.due("22: the first", x.step(1, 11, 0), 0);
        CHECK.due("22: the last", x.step(1, 11, 1), 100);
        for (int i : Edges.outside(0, 1)) {
            CHECK.due("22: step(1, 11, " + i + ")", x.step(1, 11, i), NONE);
        }
    }

    private static void ofLikeRowsTheFirst() {
        // Thing 3 by clause 4 at once, or by clause 0: of like ones the lower act.
        SelfLaw x = Laws.of("D0,1,3+", "", "", "", "D0,1,3+");
        x.seats(0, 0, 1);
        CHECK.due("22: the lower", x.step(1, 31, 0), 0);
        x.stand(0, 0);
        CHECK.due("22: the other", x.step(1, 31, 0), 400);
        // The first act decides, though the second one of the other row is lower.
        x = Laws.of("D0,1,3+?2+", "D0,1,1+", "D0,1,2+", "", "D0,1,3+?1+");
        x.seats(0, 0, 1);
        CHECK.due("22: first", x.step(1, 31, 0), 100);
        CHECK.due("22: second", x.step(1, 31, 1), 400);
        // Fewer acts are ahead of lower ones.
        x = Laws.of("D0,1,0+", "D0,1,3+?0+", "", "", "D0,1,3+");
        x.seats(0, 0, 1);
        CHECK.due("21: one act", x.shortest(1, 31), 1);
        CHECK.due("22: the higher", x.step(1, 31, 0), 400);
        // Two first acts to one and the same state, and two from there: each time the lower.
        x = Laws.of("", "D0,1,1+", "D0,1,3+?1+", "D0,1,1+", "D0,1,3+?1+");
        x.seats(0, 0, 1);
        CHECK.due("22: the lower of two to the same", x.step(1, 31, 0), 100);
        CHECK.due("22: and again", x.step(1, 31, 1), 200);
        // Of forms the lower one.
        x = Laws.of("C0,1,1", "", "D0,1,3+?1+", "D0,1,3+?2+");
        Laws.tell(x, 1, "D0,1,2+");
        Laws.tell(x, 1, "D0,1,1+");
        x.seats(0, 0, 1);
        CHECK.due("22: form 1", x.step(1, 31, 0), 10);
        CHECK.due("22: what it gives", x.step(1, 31, 1), 100);
        CHECK.due("22: then", x.step(1, 31, 2), 300);
    }

    // ---- Promise 23; terms: "the one with the fewest GROUPS, of like ones the least number"

    private static void fewestPeopleIsEachSet() {
        for (int set = 1; set < 16; set++) {
            int groups = Integer.bitCount(set);
            SelfLaw x = Laws.of("D1," + groups + ",0+", "D1," + (groups + 1) + ",1+");
            for (int group = 0; group < 4; group++) {
                x.seats(1, group, set >> group & 1);
            }
            CHECK.due("23: they alone", x.who(1), set);
            CHECK.due("23: one seat less than asked for", x.who(11), NONE);
            CHECK.due("23: so already: nobody is asked", x.who(0), 0);
        }
    }

    private static void fewestAheadOfLeast() {
        int[][] seatsAndWho = {
            {2, 2, 2, 2, 1}, {1, 2, 2, 2, 2}, {1, 1, 2, 2, 4}, {1, 1, 1, 2, 8}, {1, 1, 1, 1, 3}, {0, 1, 1, 1, 6},
            {1, 0, 1, 1, 5}, {1, 0, 0, 1, 9}, {0, 1, 0, 1, 10}, {0, 0, 1, 1, 12}, {1, 1, 0, 2, 8}, {0, 0, 0, 1, NONE},
        };
        for (int[] row : seatsAndWho) {
            SelfLaw x = Laws.of("D0,2,0+");
            for (int group = 0; group < 4; group++) {
                x.seats(0, group, row[group]);
            }
            CHECK.due("23: seats " + row[0] + row[1] + row[2] + row[3], x.who(1), row[4]);
        }
        // Two of four against three of lower numbers.
        SelfLaw x = Laws.of("D0,6,0+");
        x.seats(0, 0, 2);
        x.seats(0, 1, 2);
        x.seats(0, 2, 2);
        x.seats(0, 3, 4);
        CHECK.due("23: 9 is two, 7 is three", x.who(1), 9);
        x.seats(0, 3, 1);
        CHECK.due("23: three", x.who(1), 7);
        x.seats(0, 2, 1);
        CHECK.due("23: four", x.who(1), 15);
        x.seats(0, 1, 1);
        CHECK.due("23: not even they", x.who(1), NONE);
    }

    // ---- Promise 24; terms: "so in all STATES that all GROUPS together REACH from there"

    private static void forGoodByTheLastSeat() {
        SelfLaw x = Laws.of("D2,99,0-");
        x.thing(0, true);
        x.seats(2, 0, 40);
        x.seats(2, 1, 40);
        x.seats(2, 3, 18);
        CHECK.due("24: 98 of 99 seats", x.forGood(1), 1);
        CHECK.due("24: what is not so is not", x.forGood(0), 0);
        x.seats(2, 2, 1);
        CHECK.due("24: 99 of 99 seats", x.forGood(1), 0);
        CHECK.due("24: its contrary is not so now", x.forGood(0), 0);
        x.stand(0, 0);
        CHECK.due("24: the clause is struck", x.forGood(1), 1);
        CHECK.due("24: and that for good", x.forGood(100), 1);
        CHECK.due("24: a form that never stands", x.forGood(143), 0);
    }

    // ---- Promise 25; terms: "the fewest ACTS of theirs from THE STATE to one in which it is FOR GOOD"

    private static void trapIsNoughtOrNone() {
        SelfLaw x = Laws.of("D0,1,0+", "D1,1,0-");
        x.seats(0, 0, 1);
        for (int set = 0; set < 16; set++) {
            CHECK.due("25: for good now", x.trap(set, 10), 0);
            CHECK.due("25: never so", x.trap(set, 11), NONE);
            CHECK.due("25: group 0 can", x.trap(set, 1), set % 2 == 1 ? 1 : NONE);
        }
        x.seats(1, 3, 1);
        CHECK.due("25: group 3 can undo it, who is not of the set", x.trap(1, 1), NONE);
        CHECK.due("25: nor does it help to have it in the set", x.trap(9, 1), NONE);
        CHECK.due("25: the goal as it is now can be lost", x.trap(1, 0), NONE);
    }

    private static void trapBySteps() {
        // Clauses 1 and 2 undo it: they must be struck, by 3 and by 4.
        SelfLaw x = Laws.of("D0,1,0+", "D0,1,0-", "D0,1,0-", "S0,1,1", "S0,1,2");
        x.seats(0, 0, 1);
        CHECK.due("25: do, strike, strike", x.trap(1, 1), 3);
        CHECK.due("21: to have it for a while", x.shortest(1, 1), 1);
        x.act(1, 300);
        CHECK.due("25: two are left", x.trap(1, 1), 2);
        x.act(1, 0);
        CHECK.due("25: one is left", x.trap(1, 1), 1);
        CHECK.due("24: not yet", x.forGood(1), 0);
        x.act(1, 400);
        CHECK.due("25: none is left", x.trap(1, 1), 0);
        CHECK.due("24: now", x.forGood(1), 1);
    }

    /** Thing 1 is lost only where thing 0 is not so: but there is a way back to that, of one step or of two. */
    private static void trapFromWhichThereIsAWayBack() {
        SelfLaw x = Laws.of("D0,1,0+", "D0,1,0-", "D0,1,1-?0-");
        x.seats(0, 0, 1);
        x.thing(1, true);
        CHECK.due("25: one step back", x.trap(1, 11), NONE);
        x.stand(1, 0);
        CHECK.due("25: no way back", x.trap(1, 11), 1);
        x = Laws.of("D0,1,0+", "D0,1,2+?0+", "D0,1,2-", "D0,1,0-?2-", "D0,1,1-?0-");
        x.seats(0, 0, 1);
        x.thing(1, true);
        CHECK.due("25: two steps back", x.trap(1, 11), NONE);
        x.stand(2, 0);
        CHECK.due("25: the first of them is no more", x.trap(1, 11), 2);
        x.stand(2, 1);
        x.stand(3, 0);
        CHECK.due("25: the second of them is no more", x.trap(1, 11), 1);
    }

    // ---- Promise 26; terms: "the GOAL is so in all STATES that they REACH"

    private static void holdOnEitherSide() {
        SelfLaw x = Laws.of("D0,1,0+", "D0,1,1+?0+", "D0,1,2+?1+", "D0,1,3+?2+");
        x.seats(0, 1, 1);
        for (int set = 0; set < 16; set++) {
            int holds = (set & 2) == 0 ? 1 : 0;
            CHECK.due("26: lost by four acts", x.hold(set, 30), holds);
            CHECK.due("26: lost by one", x.hold(set, 0), holds);
            CHECK.due("26: not so now, though it will be", x.hold(set, 31), 0);
            CHECK.due("26: never lost", x.hold(set, 101), 1);
            CHECK.due("26: never so", x.hold(set, 102), 0);
        }
    }

    // ---- Promise 27: "CLAUSES that it HANGS on, as bits; NONE: it does not HOLD."

    private static void hangsOnAllAndOnNone() {
        // Each of 1 to 4 strikes clause 0 as soon as another one of them is struck.
        SelfLaw x = Laws.of("B4", "S0,1,0?=2,0", "S0,1,0?=3,0", "S0,1,0?=4,0", "S0,1,0?=1,0");
        x.seats(0, 0, 1);
        CHECK.due("27: on all five", x.hangs(1, 101), 31);
        CHECK.due("27: against nobody on itself alone", x.hangs(0, 101), 1);
        CHECK.due("27: on none", x.hangs(1, 0), 0);
        CHECK.due("27: not so now", x.hangs(1, 1), NONE);
        CHECK.due("27: not so now", x.hangs(0, 100), NONE);
        x.stand(2, 0);
        CHECK.due("27: it does not hold now", x.hangs(1, 101), NONE);
        CHECK.due("27: against nobody it does", x.hangs(0, 101), 1);
        for (int clause = 0; clause < 5; clause++) {
            SelfLaw y = Laws.of("B4", "B4", "B4", "B4", "B4");
            CHECK.due("27: each clause is its bit", y.hangs(15, 101 + 10 * clause), 1 << clause);
        }
    }

    private static void hangsOnlyOnWhatStands() {
        SelfLaw x = Laws.of("D0,1,0+?=1,1", "", "B1");
        Laws.tell(x, 1, "B4");
        x.seats(0, 0, 1);
        CHECK.due("27: nothing hangs on what is struck", x.hangs(1, 0), 0);
        CHECK.due("27: a struck goal hangs on nothing", x.hangs(1, 110), 0);
        // A clause that is struck at first and can come back: what happens in between counts.
        x = Laws.of("D0,1,0+?=1,0", "B4", "C0,1,1");
        x.seats(0, 0, 1);
        CHECK.due("27: though it could be put back", x.hangs(1, 0), 2);
        CHECK.due("9: nothing was struck", x.at(1), 1);
        // It bars itself while it stands; struck, it can be put to a form that does it.
        x = Laws.of("C0,1,1", "B1");
        Laws.tell(x, 1, "D0,1,0+");
        x.seats(0, 0, 1);
        CHECK.due("26: it can not be put now", x.hold(1, 0), 1);
        CHECK.due("27: struck at first it can be put", x.hangs(1, 0), 2);
    }

    // ---- Promise 28: "THE REMEDY; NONE: by none (also if the GOAL is not so now)."

    private static void remedyIsEachClause() {
        for (int clause = 0; clause < 5; clause++) {
            String[] forms = {"B0?3+", "B0?3+", "B0?3+", "B0?3+", "B0?3+"};
            forms[(clause + 1) % 5] = "S0,1," + clause;
            SelfLaw x = Laws.of(forms);
            x.seats(0, 0, 1);
            int goal = 101 + 10 * clause;
            CHECK.due("26: it does not hold", x.hold(1, goal), 0);
            CHECK.due("28: a bar of " + clause, x.remedy(1, goal), clause);
            CHECK.due("28: it holds anyway against nobody", x.remedy(0, goal), 0);
        }
        // Either of two would do: the least.
        SelfLaw x = Laws.of("", "", "C0,1,3", "", "");
        Laws.tell(x, 3, "C0,1,4");
        Laws.tell(x, 4, "D0,1,0+");
        x.seats(0, 0, 1);
        CHECK.due("28: 3 or 4", x.remedy(1, 0), 3);
        x.stand(3, 1);
        CHECK.due("28: 4 alone", x.remedy(1, 0), 4);
    }

    private static void remedyIsNone() {
        SelfLaw x = Laws.of("D0,1,0+", "", "C0,1,1");
        Laws.tell(x, 1, "D0,1,1+");
        x.seats(0, 0, 1);
        CHECK.due("28: a bar hinders no doing", x.remedy(1, 0), NONE);
        CHECK.due("28: not so now", x.remedy(1, 1), NONE);
        CHECK.due("28: not so now, against nobody", x.remedy(0, 1), NONE);
        CHECK.due("28: a bar of 1 hinders its putting", x.remedy(1, 10), 1);
        CHECK.due("28: not so now, though a bar is there", x.remedy(1, 11), NONE);
        CHECK.due("28: never so", x.remedy(15, 143), NONE);
        x.stand(1, 1);
        CHECK.due("28: too late", x.remedy(1, 10), NONE);
    }

    /** "(that hangs on nothing, is BARRED itself as well) is IN FORCE always beside all CLAUSES" */
    private static void remedyCanNotBeUndone() {
        SelfLaw x = Laws.of("D0,1,3+", "B0", "S0,1,1", "S0,1,0");
        x.seats(0, 0, 1);
        CHECK.due("26: the law's own bar can be struck", x.hold(1, 101), 0);
        CHECK.due("28: a bar of 0 that can not", x.remedy(1, 101), 0);
        // All clauses stand already: there is room for it beside them.
        x = Laws.of("D0,1,3+", "S0,1,4", "S0,1,0", "S0,1,1", "S0,1,2");
        x.seats(0, 0, 1);
        CHECK.due("28: beside five", x.remedy(1, 141), 4);
        CHECK.due("28: nothing came of it", x.count(1) * 10 + x.count(5), 55);
    }
}

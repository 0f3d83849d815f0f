/** The boundary cases of promises 1 to 8 and of the terms about texts: a test for each sentence that names one. */
public final class EdgeTextTest {
    private static final int UNKNOWN = Edges.UNKNOWN, BAD = Edges.BAD, LATE = Edges.LATE, FULL = Edges.FULL;
    private static final int NONE = Edges.NONE;
    private static final Check CHECK = new Check("EdgeTextTest");

    public static void main(String[] args) {
        newObjectIsEmpty();
        objectsShareNothing();
        writeTakesOneToEightBytes();
        writeTakesTheLowestBytesHighestFirst();
        writeRefusesOtherNumbersOfBytes();
        textHoldsTwentyBytes();
        whatIsFullGetsNothing();
        wipe();
        formsAreTaken();
        everyNumberOfEveryForm();
        everyByteAtEveryPlace();
        beginningsOfForms();
        faultStaysWhateverComesBehind();
        faultsOfTheLongestTexts();
        threeFormsAtMost();
        formRefusesClauses();
        formRefusesFaults();
        unform();
        aboutTheLeastAndTheGreatest();
        aboutRefusals();
        seatsFromNoughtToNinetyNine();
        seatsRefusals();
        CHECK.end();
    }

    // ---- Promise 1: "No FORMS, all STRUCK." Terms: "STRUCK (.. so at first)", "not, at first", "0 at first"

    private static void newObjectIsEmpty() {
        SelfLaw x = new SelfLaw();
        for (int clause = 0; clause < 5; clause++) {
            CHECK.due("1: no form of clause " + clause, x.about(clause, 1, 0), UNKNOWN);
            CHECK.due("1: it is struck", x.at(clause), 0);
            CHECK.due("1: it can not stand", x.stand(clause, 1), BAD);
            CHECK.due("1: it is not in force", x.force(clause), 0);
            CHECK.due("1: it had no form", x.unform(clause), 0);
        }
        for (int thing = 0; thing < 4; thing++) {
            CHECK.due("4: thing " + thing + " is not so at first", x.thing(thing, false), 0);
        }
        for (int body = 0; body < 3; body++) {
            for (int group = 0; group < 4; group++) {
                CHECK.due("4: no seats at first", x.seats(body, group, 0), 0);
            }
        }
        CHECK.due("1: no text", x.wipe(), 0);
        CHECK.due("1: no rows", x.unroll(), 0);
        CHECK.due("1: nothing to judge", x.judge(false), NONE);
        for (int slot = 0; slot < 3; slot++) {
            CHECK.due("1: nothing is kept", x.again(slot), LATE);
        }
        for (int set = 0; set < 16; set++) {
            CHECK.due("1: nothing may be done", x.acts(set), 0);
        }
        for (int what = 0; what <= 5; what++) {
            CHECK.due("1: count(" + what + ")", x.count(what), 0);
        }
    }

    private static void objectsShareNothing() {
        SelfLaw first = Edges.filled();
        String untouched = Edges.allOf(new SelfLaw());
        CHECK.due("1: a second object is new", Edges.allOf(new SelfLaw()).equals(untouched) ? 1 : 0, 1);
        SelfLaw second = Edges.filledRoll();
        second.unform(0);
        second.unroll();
        second.wipe();
        boolean same = Edges.allOf(first).equals(Edges.allOf(Edges.filled()));
        CHECK.due("1: the first one is as it was", same ? 1 : 0, 1);
    }

    // ---- Promise 2: "n bytes (1 .. 8) of v, the lowest n, the highest of these first"

    private static void writeTakesOneToEightBytes() {
        for (int n = 1; n <= 8; n++) {
            SelfLaw x = new SelfLaw();
            CHECK.due("2: write(" + n + ", ..)", x.write(n, 0x4242424242424242L), n);
            CHECK.due("2: so long it is", x.count(0), n);
            CHECK.due("2: and behind it", x.write(n, 0), 2 * n);
        }
    }

    private static void writeTakesTheLowestBytesHighestFirst() {
        String form = "D1,17,2-";
        long[] above = {0, -1, 0x4242424242424242L, Long.MIN_VALUE, Long.MAX_VALUE};
        for (int n = 1; n <= 8; n++) {
            for (long v : above) {
                SelfLaw x = new SelfLaw();
                for (int i = 0; i < n; i++) {
                    v = v << 8 | form.charAt(i);
                }
                x.write(n, v);
                Laws.append(x, form.substring(n));
                CHECK.due("2: " + n + " lowest bytes", x.form(0), 1);
                CHECK.due("2: body", x.about(0, 1, 1), 1);
                CHECK.due("2: seats", x.about(0, 1, 2), 17);
                CHECK.due("2: thing", x.about(0, 1, 3), 2);
            }
        }
        // A byte is eight bits, and has no sign.
        for (int high = 1; high < 256; high++) {
            SelfLaw x = new SelfLaw();
            x.write(1, (long) high << 8 | 'B');
            CHECK.due("2: the bits above are not taken", x.fault(), 1);
            x.write(1, '3' | (long) high << 56);
            CHECK.due("2: the bits above are not taken", x.fault(), NONE);
        }
    }

    /** "BAD" of promise 2, and ahead of "FULL". */
    private static void writeRefusesOtherNumbersOfBytes() {
        SelfLaw empty = new SelfLaw();
        SelfLaw full = new SelfLaw();
        Laws.append(full, "xxxxxxxxxxxxxxxxxxxx");
        for (int n : Edges.outside(1, 8)) {
            CHECK.due("2: write(" + n + ", ..)", empty.write(n, 66), BAD);
            CHECK.due("2: write(" + n + ", ..) into a full one", full.write(n, 66), BAD);
        }
        CHECK.due("2: still empty", empty.count(0), 0);
        CHECK.due("2: still full", full.count(0), 20);
    }

    // ---- Terms: "THE TEXT is bytes (20 at most)"; promise 2: "FULL: nothing comes"

    private static SelfLaw withBytes(int many) {
        SelfLaw x = new SelfLaw();
        for (int i = 0; i < many; i++) {
            x.write(1, 66);
        }
        return x;
    }

    private static void textHoldsTwentyBytes() {
        for (int many = 0; many <= 20; many++) {
            for (int n = 1; n <= 8; n++) {
                SelfLaw x = withBytes(many);
                boolean fits = many + n <= 20;
                CHECK.due("2: " + n + " bytes behind " + many, x.write(n, 0), fits ? many + n : FULL);
                CHECK.due("2: how long it is then", x.count(0), fits ? many + n : many);
            }
        }
    }

    private static void whatIsFullGetsNothing() {
        SelfLaw x = new SelfLaw();
        Laws.append(x, Edges.LONGEST);
        for (int n = 4; n <= 8; n++) {
            CHECK.due("2: " + n + " bytes behind 17", x.write(n, 0), FULL);
            CHECK.due("2: none of them came", x.fault(), NONE);
        }
        CHECK.due("2: three fit", x.write(3, 0), 20);
        CHECK.due("2: and they came", x.fault(), 17);
        CHECK.due("2: one does not fit", x.write(1, 0), FULL);
        CHECK.due("2: it did not come", x.wipe(), 20);
    }

    // ---- Promise 3: "THE TEXT is empty: how long it was."

    private static void wipe() {
        for (int many = 0; many <= 20; many++) {
            SelfLaw x = withBytes(many);
            CHECK.due("3: wipe of " + many, x.wipe(), many);
            CHECK.due("3: it is empty", x.count(0), 0);
            CHECK.due("3: an empty text is not at its end", x.fault(), 0);
            CHECK.due("3: it is no form", x.form(0), LATE);
            CHECK.due("3: wiped again", x.wipe(), 0);
            CHECK.due("3: from its beginning", Laws.append(x, "V2,3,99"), 7);
            CHECK.due("3: what was there does not count", x.fault(), NONE);
        }
        SelfLaw x = withBytes(20);
        x.wipe();
        CHECK.due("3: there is room for 8", x.write(8, 0), 8);
        CHECK.due("3: for 16", x.write(8, 0), 16);
        CHECK.due("3: for 20", x.write(4, 0), 20);
        CHECK.due("3: and no more", x.write(1, 0), FULL);
        x = Edges.filled();
        x.wipe();
        CHECK.due("3: forms stay", x.count(1), 7);
        CHECK.due("3: rows stay", x.count(4), 4);
    }

    // ---- Promise 4, "FAULT"

    private static void fault(String text, int want) {
        SelfLaw x = new SelfLaw();
        if (!text.isEmpty()) {
            Laws.append(x, text);
        }
        CHECK.due("4: fault of " + text, x.fault(), want);
        CHECK.due("4: length of " + text, x.count(0), text.length());
    }

    private static final String[] HANGS = {"", "?0+", "?3-", "?=0,0", "?=4,3", "?=04,03", "?03+"};

    /** "NONE: it is a FORM": each letter with its least and its greatest numbers, of one and of two figures. */
    private static void formsAreTaken() {
        String[] forms = {
            "C0,1,0", "C2,99,4", "C00,01,00", "C02,99,04", "S0,1,0", "S2,99,4", "S00,01,00", "S02,99,04", "D0,1,0+",
            "D2,99,3-", "D00,01,00-", "D02,99,03+", "B0", "B4", "B00", "B04", "V0,0,1", "V2,3,99", "V00,00,01",
            "V02,03,99",
        };
        for (String form : forms) {
            for (String hangs : HANGS) {
                fault(form + hangs, NONE);
            }
        }
    }

    /**
     * "numbers: one or two figures, told by tens"; "Of numbers: the first byte by which it is more than there may
     * be; of one that is less its first byte."
     */
    private static void everyNumberOfEveryForm() {
        String[] letters = {"C", "S"};
        for (String letter : letters) {
            everyNumber(letter, ",1,1", 0, 2);
            everyNumber(letter + "1,", ",1", 1, 99);
            everyNumber(letter + "1,1,", "", 0, 4);
        }
        everyNumber("D", ",1,1+", 0, 2);
        everyNumber("D1,", ",1+", 1, 99);
        everyNumber("D1,1,", "-", 0, 3);
        everyNumber("B", "", 0, 4);
        everyNumber("V", ",1,1", 0, 2);
        everyNumber("V1,", ",1", 0, 3);
        everyNumber("V1,1,", "", 1, 99);
        for (String form : new String[] {"C1,1,1", "S1,1,1", "D1,1,1+", "B1", "V1,1,1"}) {
            everyNumber(form + "?", "+", 0, 3);
            everyNumber(form + "?", "-", 0, 3);
            everyNumber(form + "?=", ",1", 0, 4);
            everyNumber(form + "?=1,", "", 0, 3);
        }
    }

    private static void everyNumber(String ahead, String behind, int least, int most) {
        int place = ahead.length();
        for (int tens = 0; tens <= 9; tens++) {
            int alone = tens > most || tens < least ? place : NONE;
            // A text that ends behind a number of one figure that is less than it may be can still become one.
            boolean canGrow = tens <= most && tens < least && behind.isEmpty();
            fault(ahead + tens + behind, canGrow ? place + 1 : alone);
            for (int ones = 0; ones <= 9; ones++) {
                int number = 10 * tens + ones;
                int two = tens > most ? place : number > most ? place + 1 : number < least ? place : NONE;
                fault(ahead + tens + ones + behind, two);
                if (number % 7 < 2) {
                    fault(ahead + tens + ones + "0" + behind, two == NONE ? place + 2 : two);
                    fault(ahead + tens + ones + "9" + behind, two == NONE ? place + 2 : two);
                }
            }
        }
        fault(ahead + behind, place);
        fault(ahead + "x" + behind, place);
        fault(ahead + "-1" + behind, place);
        fault(ahead + "+1" + behind, place);
        fault(ahead + " 1" + behind, place);
    }

    /** "the place of the first byte by which the TEXT can be no FORM": each byte in the place of each one. */
    private static void everyByteAtEveryPlace() {
        String[] forms = {
            "C1,20,3", "S0,5,4?2+", "D2,1,3+", "D0,09,0-?1-", "B2", "B4?=3,2", "V1,2,30", "V0,3,1?=01,00",
        };
        for (String form : forms) {
            for (int place = 0; place <= form.length(); place++) {
                for (int sign = 0; sign < 256; sign++) {
                    String behind = place < form.length() ? form.substring(place + 1) : "";
                    String text = form.substring(0, place) + (char) sign + behind;
                    SelfLaw x = new SelfLaw();
                    PlainLaw y = new PlainLaw();
                    Laws.append(x, text);
                    for (int i = 0; i < text.length(); i++) {
                        y.write(1, text.charAt(i));
                    }
                    CHECK.due("4: " + form + " with " + sign + " at " + place, x.fault(), y.fault());
                }
            }
        }
    }

    /** "its length, if it is only not at its end": every beginning of a FORM is one, or is only not at its end. */
    private static void beginningsOfForms() {
        beginningsOf("C02,99,04?=04,03", 8, 9, 15, 16);
        beginningsOf("S1,10,2?3-", 7, 10);
        beginningsOf(Edges.LONGEST, 10, 16, 17);
        beginningsOf("D0,01,0-?00+", 8, 12);
        beginningsOf("B04?03-", 2, 3, 7);
        beginningsOf("V02,03,99?=0,0", 8, 9, 14);
        beginningsOf("V1,1,05?1+", 7, 10);
    }

    /** Of the lengths told the beginnings are FORMS themselves. */
    private static void beginningsOf(String form, int... whole) {
        SelfLaw x = new SelfLaw();
        CHECK.due("4: an empty text", x.fault(), 0);
        int next = 0;
        for (int length = 1; length <= form.length(); length++) {
            x.write(1, form.charAt(length - 1));
            boolean isForm = next < whole.length && whole[next] == length;
            CHECK.due("4: fault of " + form.substring(0, length), x.fault(), isForm ? NONE : length);
            next += isForm ? 1 : 0;
        }
        CHECK.due("4: all were met", next, whole.length);
    }

    /** "by which the TEXT can be no FORM, whatever came behind it" */
    private static void faultStaysWhateverComesBehind() {
        String[] texts = {"X", "C3", "C0,0,", "C0,00", "C0,100", "D0,1,4", "D0,1,1?", "B1+", "V0,4", "B1?4", "B1?=1,4"};
        String[] behind = {"", "0", "+", ",1,1", "?1+", "\0", "C0,1,1", "\u00ff\u00ff"};
        for (String text : texts) {
            int want = Laws.faultOf(new SelfLaw(), text);
            CHECK.due("4: " + text + " can be no form", want < text.length() && want != NONE ? 1 : 0, 1);
            for (String more : behind) {
                fault(text + more, want);
            }
        }
    }

    private static void faultsOfTheLongestTexts() {
        fault(Edges.LONGEST, NONE);
        fault(Edges.LONGEST + "0", 17);
        fault(Edges.LONGEST + "?1+", 17);
        fault("D02,99,03+?=04,04", 16);
        fault("D02,99,03+?=04,", 15);
        fault("xxxxxxxxxxxxxxxxxxxx", 0);
        fault("B0xxxxxxxxxxxxxxxxxx", 2);
        fault("B", 1);
        fault("B0", NONE);
    }

    // ---- Promise 5; terms: "FORMS 1, 2, .. (3 at most, as they are told)", "CLAUSES 0 .. 4"

    private static void threeFormsAtMost() {
        SelfLaw x = new SelfLaw();
        for (int clause = 0; clause < 5; clause++) {
            CHECK.due("5: form 1", Laws.tell(x, clause, "B0"), 1);
            CHECK.due("5: form 2", Laws.tell(x, clause, "C1,20,3"), 2);
            CHECK.due("5: form 3", Laws.tell(x, clause, "D2,30,1+?2-"), 3);
            CHECK.due("5: no form 4", Laws.tell(x, clause, "V0,1,2"), FULL);
            CHECK.due("5: so many in all", x.count(1), 3 * clause + 3);
            CHECK.due("5: as they were told: B", x.about(clause, 1, 0), 3);
            CHECK.due("5: as they were told: C", x.about(clause, 2, 0), 0);
            CHECK.due("5: as they were told: D", x.about(clause, 3, 0), 2);
            CHECK.due("5: there is no form 4", x.about(clause, 4, 0), UNKNOWN);
            CHECK.due("5: it is struck still", x.at(clause), 0);
        }
        for (int clause = 0; clause < 5; clause++) {
            CHECK.due("5: all are full", x.form(clause), FULL);
        }
        CHECK.due("5: fifteen", x.count(1), 15);
        CHECK.due("5: the text stays", x.count(0), 6);
    }

    private static void formRefusesClauses() {
        SelfLaw x = new SelfLaw();
        SelfLaw late = new SelfLaw();
        SelfLaw full = new SelfLaw();
        for (int i = 0; i < 15; i++) {
            Laws.tell(full, i % 5, "B0");
        }
        Laws.append(x, "B0");
        for (int clause : Edges.outside(0, 4)) {
            CHECK.due("5: form(" + clause + ")", x.form(clause), UNKNOWN);
            CHECK.due("5: UNKNOWN ahead of LATE", late.form(clause), UNKNOWN);
            CHECK.due("5: UNKNOWN ahead of FULL", full.form(clause), UNKNOWN);
        }
        CHECK.due("5: none came", x.count(1), 0);
        CHECK.due("5: none went", full.count(1), 15);
        CHECK.due("5: clause 0", x.form(0), 1);
        CHECK.due("5: clause 4", x.form(4), 1);
    }

    /** "LATE: a FAULT", told ahead of "FULL": one at its end, one in between, one behind. */
    private static void formRefusesFaults() {
        String[] texts = {"", "B", "x", "B5", "B4x", "C0,0", "C0,0,1", Edges.LONGEST + "0", "D0,1,1"};
        for (String text : texts) {
            SelfLaw x = new SelfLaw();
            SelfLaw full = Laws.of("B0");
            Laws.tell(full, 0, "B1");
            Laws.tell(full, 0, "B2");
            full.wipe();
            Laws.append(x, text);
            Laws.append(full, text);
            CHECK.due("5: form of " + text, x.form(0), LATE);
            CHECK.due("5: none came", x.count(1), 0);
            CHECK.due("5: LATE ahead of FULL", full.form(0), LATE);
            CHECK.due("5: three stay", full.count(1), 3);
            CHECK.due("5: the text stays", x.count(0), text.length());
        }
    }

    // ---- Promise 6: "All FORMS of a CLAUSE are gone; it is STRUCK: how many it had."

    private static void unform() {
        for (int clause = 0; clause < 5; clause++) {
            for (int many = 0; many <= 3; many++) {
                SelfLaw x = Laws.of("B1", "B1", "B1", "B1", "B1");
                x.unform(clause);
                for (int form = 1; form <= many; form++) {
                    Laws.tell(x, clause, "V0,1," + form);
                }
                x.stand(clause, many);
                CHECK.due("6: it had " + many, x.unform(clause), many);
                CHECK.due("6: it has none", x.unform(clause), 0);
                CHECK.due("6: it is struck", x.at(clause), 0);
                CHECK.due("6: it can not stand", x.stand(clause, 1), BAD);
                CHECK.due("6: form 1 is gone", x.about(clause, 1, 0), UNKNOWN);
                CHECK.due("6: its seats are gone", x.votes(2, 0), 0);
                CHECK.due("6: the others have theirs", x.count(1), 4);
                CHECK.due("6: and stand", x.count(2), 4);
                CHECK.due("6: from 1 again", Laws.tell(x, clause, "B2"), 1);
            }
        }
        SelfLaw x = Laws.of("B1", "B1", "B1", "B1", "B1");
        for (int clause : Edges.outside(0, 4)) {
            CHECK.due("6: unform(" + clause + ")", x.unform(clause), UNKNOWN);
        }
        CHECK.due("6: five stay", x.count(1), 5);
        CHECK.due("6: five stand", x.count(2), 5);
    }

    // ---- Promise 7

    private static void aboutForm(String text, int... want) {
        for (int clause = 0; clause < 5; clause += 4) {
            for (int form = 1; form <= 3; form++) {
                SelfLaw x = new SelfLaw();
                for (int before = 1; before < form; before++) {
                    Laws.tell(x, clause, "D1,11,1-?1-");
                }
                Laws.tell(x, clause, text);
                for (int what = 0; what <= 5; what++) {
                    String call = "7: about(" + clause + ", " + form + ", " + what + ") of " + text;
                    CHECK.due(call, x.about(clause, form, what), want[what]);
                }
            }
        }
    }

    private static void aboutTheLeastAndTheGreatest() {
        aboutForm("C0,1,0", 0, 0, 1, 0, NONE, NONE);
        aboutForm("C2,99,4?0-", 0, 2, 99, 4, NONE, 0);
        aboutForm("S0,1,0?0+", 1, 0, 1, 0, NONE, 1);
        aboutForm("S2,99,4?3-", 1, 2, 99, 4, NONE, 30);
        aboutForm("D0,1,0+?3+", 2, 0, 1, 0, 1, 31);
        aboutForm("D2,99,3-?=0,0", 2, 2, 99, 3, 0, 100);
        aboutForm("D02,09,03-", 2, 2, 9, 3, 0, NONE);
        aboutForm("B0?=0,3", 3, 0, NONE, NONE, NONE, 103);
        aboutForm("B4?=4,0", 3, 4, NONE, NONE, NONE, 140);
        aboutForm("V0,0,1?=4,3", 4, 0, 0, 1, NONE, 143);
        aboutForm("V2,3,99", 4, 2, 3, 99, NONE, NONE);
        aboutForm(Edges.LONGEST, 2, 2, 99, 3, 1, 143);
    }

    /** "UNKNOWN: clause, form; BAD." */
    private static void aboutRefusals() {
        SelfLaw x = new SelfLaw();
        for (int told = 0; told <= 3; told++) {
            CHECK.due("7: form 0", x.about(2, 0, 0), UNKNOWN);
            for (int form = 1; form <= told; form++) {
                CHECK.due("7: form " + form + " of " + told, x.about(2, form, 1), form);
            }
            CHECK.due("7: the next one", x.about(2, told + 1, 1), UNKNOWN);
            CHECK.due("7: UNKNOWN ahead of BAD", x.about(2, told + 1, 6), UNKNOWN);
            Laws.tell(x, 2, "B" + (told + 1));
        }
        for (int clause : Edges.outside(0, 4)) {
            CHECK.due("7: clause " + clause, x.about(clause, 1, 0), UNKNOWN);
            CHECK.due("7: UNKNOWN ahead of BAD", x.about(clause, 1, -1), UNKNOWN);
        }
        for (int form : Edges.outside(1, 3)) {
            CHECK.due("7: form " + form, x.about(2, form, 0), UNKNOWN);
            CHECK.due("7: UNKNOWN ahead of BAD", x.about(2, form, 6), UNKNOWN);
        }
        for (int what : Edges.outside(0, 5)) {
            CHECK.due("7: what " + what, x.about(2, 1, what), BAD);
        }
    }

    // ---- Promise 8; terms: "BODIES 0 .. 2 have SEATS of GROUPS 0 .. 3 (0 .. 99 each; 0 at first)"

    private static void seatsFromNoughtToNinetyNine() {
        SelfLaw x = new SelfLaw();
        for (int body = 0; body < 3; body++) {
            for (int group = 0; group < 4; group++) {
                CHECK.due("8: none at first", x.seats(body, group, 99), 0);
                CHECK.due("8: there were 99", x.seats(body, group, 0), 99);
                CHECK.due("8: there were none", x.seats(body, group, 4 * body + group + 1), 0);
            }
        }
        for (int body = 0; body < 3; body++) {
            for (int group = 0; group < 4; group++) {
                CHECK.due("8: each its own", x.votes(1 << group, body), 4 * body + group + 1);
                CHECK.due("8: each its own", x.seats(body, group, 98), 4 * body + group + 1);
            }
        }
    }

    /** "UNKNOWN; BAD." */
    private static void seatsRefusals() {
        SelfLaw x = new SelfLaw();
        x.seats(0, 0, 7);
        x.seats(2, 3, 7);
        for (int body : Edges.outside(0, 2)) {
            CHECK.due("8: body " + body, x.seats(body, 0, 1), UNKNOWN);
            CHECK.due("8: UNKNOWN ahead of BAD", x.seats(body, 0, 100), UNKNOWN);
        }
        for (int group : Edges.outside(0, 3)) {
            CHECK.due("8: group " + group, x.seats(1, group, 1), UNKNOWN);
            CHECK.due("8: UNKNOWN ahead of BAD", x.seats(1, group, -1), UNKNOWN);
        }
        CHECK.due("8: the refused ones changed nothing", x.votes(15, 0) + x.votes(15, 1) + x.votes(15, 2), 14);
        SelfLaw y = new SelfLaw();
        y.seats(2, 3, 7);
        for (int n : Edges.outside(0, 99)) {
            CHECK.due("8: seats(2, 3, " + n + ")", y.seats(2, 3, n), BAD);
        }
        CHECK.due("8: as they were", y.seats(2, 3, 0), 7);
    }
}

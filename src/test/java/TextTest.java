/** Promises 1 to 8: a new object, texts, forms, seats. */
public final class TextTest {
    private static final int UNKNOWN = -1, BAD = -2, LATE = -3, FULL = -4, NONE = -9;
    private static final Check CHECK = new Check("TextTest");

    public static void main(String[] args) {
        newObject();
        write();
        wipe();
        faultOfForms();
        faultOfNumbers();
        faultAtOtherPlaces();
        faultAtTheEnd();
        form();
        unform();
        about();
        seats();
        CHECK.end();
    }

    private static void newObject() {
        SelfLaw x = new SelfLaw();
        for (int what = 0; what <= 5; what++) {
            CHECK.due("1: count(" + what + ")", x.count(what), 0);
        }
        for (int clause = 0; clause < 5; clause++) {
            CHECK.due("1: at(" + clause + ")", x.at(clause), 0);
            CHECK.due("1: about(" + clause + ", 1, 0)", x.about(clause, 1, 0), UNKNOWN);
        }
        for (int thing = 0; thing < 4; thing++) {
            CHECK.due("1: is(" + 10 * thing + ")", x.is(10 * thing), 1);
        }
        for (int body = 0; body < 3; body++) {
            CHECK.due("1: votes(15, " + body + ")", x.votes(15, body), 0);
        }
        for (int slot = 0; slot < 3; slot++) {
            CHECK.due("1: again(" + slot + ")", x.again(slot), LATE);
        }
        CHECK.due("1: reach(15)", x.reach(15), 1);
    }

    private static void write() {
        SelfLaw x = new SelfLaw();
        CHECK.due("2: none", x.write(0, 0), BAD);
        CHECK.due("2: nine", x.write(9, 0), BAD);
        CHECK.due("2: less than none", x.write(-1, 0), BAD);
        CHECK.due("2: least", x.write(Integer.MIN_VALUE, 0), BAD);
        CHECK.due("2: refused ones leave it empty", x.count(0), 0);
        // The lowest two bytes of a number that has more: "B3".
        CHECK.due("2: lowest bytes", x.write(2, 0x7766554433224233L), 2);
        CHECK.due("2: highest of these first", x.fault(), NONE);
        CHECK.due("2: it is a form", x.form(0), 1);
        CHECK.due("2: of clause 3", x.about(0, 1, 1), 3);
        x.wipe();
        // Eight bytes, the highest above the sign bit.
        CHECK.due("2: eight", x.write(8, 0xC3332C312C342C35L), 8);
        CHECK.due("2: first byte 0xC3 is no letter", x.fault(), 0);
        CHECK.due("2: sixteen", x.write(8, -1L), 16);
        CHECK.due("2: too many", x.write(5, 0), FULL);
        CHECK.due("2: nothing came", x.count(0), 16);
        CHECK.due("2: BAD ahead of FULL", x.write(9, 0), BAD);
        CHECK.due("2: twenty", x.write(4, 0), 20);
        CHECK.due("2: full", x.write(1, 0), FULL);
        CHECK.due("2: still twenty", x.count(0), 20);
    }

    private static void wipe() {
        SelfLaw x = new SelfLaw();
        CHECK.due("3: empty", x.wipe(), 0);
        Laws.append(x, "C0,5,1");
        CHECK.due("3: six", x.wipe(), 6);
        CHECK.due("3: then none", x.wipe(), 0);
        CHECK.due("3: from the beginning", Laws.append(x, "B1"), 2);
        CHECK.due("3: a form", x.fault(), NONE);
    }

    private static void fault(String text, int want) {
        CHECK.due("4: fault of " + text, Laws.faultOf(new SelfLaw(), text), want);
    }

    private static void faultOfForms() {
        String[] forms = {
            "C0,1,0", "C2,99,4", "C02,09,04", "S1,50,3", "S00,01,00", "D0,1,3+", "D2,99,0-", "D02,07,03-",
            "B0", "B4", "B04", "V0,0,1", "V2,3,99", "V02,03,09", "C0,1,0?0+", "S0,1,0?3-", "B1?03+",
            "B1?=0,0", "B1?=4,3", "B1?=04,03", "D0,1,3+?1-", "D1,10,2-?=3,0", "V1,2,3?=0,1", "V02,03,99?=04,03",
        };
        for (String form : forms) {
            fault(form, NONE);
        }
    }

    private static void faultOfNumbers() {
        fault("C3,1,1", 1);
        fault("C9", 1);
        fault("C03", 2);
        fault("C10", 2);
        fault("C000", 3);
        fault("C0,100,1", 5);
        fault("C0,010,1", 5);
        fault("C0,0,1", 3);
        fault("C0,00,1", 3);
        fault("C0,00", 3);
        fault("C0,0x", 3);
        fault("S1,0,1", 3);
        fault("D1,00,1+", 3);
        fault("C0,1,5", 5);
        fault("C0,1,05", 6);
        fault("C0,1,10", 6);
        fault("C0,1,004", 7);
        fault("D0,1,4+", 5);
        fault("D0,1,30", 6);
        fault("B5", 1);
        fault("B12", 2);
        fault("B05", 2);
        fault("B000", 3);
        fault("V0,4,1", 3);
        fault("V0,04", 4);
        fault("V0,0,0", 6);
        fault("V0,0,00", 5);
        fault("V0,0,0?", 5);
        fault("V0,0,100", 7);
        fault("B1?4+", 3);
        fault("B1?04", 4);
        fault("B1?=5", 4);
        fault("B1?=05", 5);
        fault("B1?=0,4", 6);
        fault("B1?=0,04", 7);
        fault("B1?=0,30", 7);
    }

    private static void faultAtOtherPlaces() {
        fault("X", 0);
        fault("c0,1,1", 0);
        fault(" C0,1,1", 0);
        fault("0,1,1", 0);
        fault("?1+", 0);
        fault("C,1,1", 1);
        fault("C-1", 1);
        fault("C0.1", 2);
        fault("C0,,1", 3);
        fault("C0,x", 3);
        fault("C0,1x", 4);
        fault("C0,1,x", 5);
        fault("C0,1,1,", 6);
        fault("C0,1,1+", 6);
        fault("S0,1,1-", 6);
        fault("D0,1,1?0+", 6);
        fault("D0,1,1*", 6);
        fault("D0,1,1+-", 7);
        fault("B1,", 2);
        fault("B1+", 2);
        fault("V0,1,1+", 6);
        fault("B1?+", 3);
        fault("B1?x", 3);
        fault("B1?1", 4);
        fault("B1?1,", 4);
        fault("B1?1++", 5);
        fault("B1?1+?1+", 5);
        fault("B1?==", 4);
        fault("B1?=1+", 5);
        fault("B1?=1,1+", 7);
        fault("B1?=1,1 ", 7);
        fault("B1?=01,01,", 9);
        fault("B\0", 1);
        fault("B1\0", 2);
        fault("\u00ff", 0);
        // Digits and letters are bytes: none that only ends like one is taken for it.
        fault("\u00c31", 0);
        fault("B\u00b1", 1);
    }

    private static void faultAtTheEnd() {
        fault("", 0);
        String[] beginnings = {
            "C", "C0", "C00", "C0,", "C0,0", "C0,1", "C0,99", "C0,1,", "S", "S2,5", "D0,1,3", "D0,1,03", "D0,0", "B",
            "V", "V1", "V1,", "V1,3", "V1,3,", "V1,3,0", "B1?", "B1?1", "B1?01", "B1?=", "B1?=1", "B1?=1,",
            "D0,1,3+?", "D0,1,3-?=04,",
        };
        for (String beginning : beginnings) {
            fault(beginning, beginning.length());
        }
        SelfLaw x = new SelfLaw();
        Laws.append(x, "C0,0");
        CHECK.due("4: may grow", x.fault(), 4);
        Laws.append(x, "7,2");
        CHECK.due("4: has grown", x.fault(), NONE);
        CHECK.due("4: the text is as it was", x.count(0), 7);
    }

    private static void form() {
        SelfLaw x = new SelfLaw();
        CHECK.due("5: empty text", x.form(0), LATE);
        Laws.append(x, "C0,5,1");
        CHECK.due("5: clause 5", x.form(5), UNKNOWN);
        CHECK.due("5: clause -1", x.form(-1), UNKNOWN);
        CHECK.due("5: first", x.form(4), 1);
        CHECK.due("5: the text stays", x.count(0), 6);
        CHECK.due("5: the same again", x.form(4), 2);
        CHECK.due("5: third", x.form(4), 3);
        CHECK.due("5: fourth", x.form(4), FULL);
        CHECK.due("5: three are there", x.count(1), 3);
        CHECK.due("5: each clause has its own", x.form(3), 1);
        CHECK.due("5: still struck", x.at(4), 0);
        Laws.append(x, "x");
        CHECK.due("5: LATE ahead of FULL", x.form(4), LATE);
        CHECK.due("5: UNKNOWN ahead of LATE", x.form(9), UNKNOWN);
        CHECK.due("5: nothing came", x.count(1), 4);
        CHECK.due("5: none of these stays behind", x.about(3, 2, 0), UNKNOWN);
    }

    private static void unform() {
        SelfLaw x = Laws.of("C0,5,1", "B0");
        Laws.tell(x, 0, "S0,5,1");
        x.stand(0, 2);
        CHECK.due("6: clause 5", x.unform(5), UNKNOWN);
        CHECK.due("6: clause -1", x.unform(-1), UNKNOWN);
        CHECK.due("6: two", x.unform(0), 2);
        CHECK.due("6: struck", x.at(0), 0);
        CHECK.due("6: gone", x.about(0, 1, 0), UNKNOWN);
        CHECK.due("6: the other one stands", x.at(1), 1);
        CHECK.due("6: and is there", x.count(1), 1);
        CHECK.due("6: none now", x.unform(0), 0);
        CHECK.due("6: told anew", Laws.tell(x, 0, "D1,2,3+?0-"), 1);
        CHECK.due("6: it is the new one", x.about(0, 1, 0), 2);
        x.unform(0);
        Laws.tell(x, 0, "B2");
        CHECK.due("6: no number of the old one", x.about(0, 1, 2), NONE);
        CHECK.due("6: hangs on nothing", x.about(0, 1, 5), NONE);
        x.stand(0, 1);
        x.thing(0, true);
        CHECK.due("6: so it is in force", x.force(0), 1);
    }

    private static void aboutForm(String text, int... want) {
        SelfLaw x = Laws.of("", "", "", text);
        for (int what = 0; what <= 5; what++) {
            CHECK.due("7: about " + text + ", " + what, x.about(3, 1, what), want[what]);
        }
    }

    private static void about() {
        aboutForm("C2,17,4", 0, 2, 17, 4, NONE, NONE);
        aboutForm("S1,09,00?0-", 1, 1, 9, 0, NONE, 0);
        aboutForm("D0,99,3+?3+", 2, 0, 99, 3, 1, 31);
        aboutForm("D1,1,0-?2-", 2, 1, 1, 0, 0, 20);
        aboutForm("B4?=0,0", 3, 4, NONE, NONE, NONE, 100);
        aboutForm("V2,3,50?=4,3", 4, 2, 3, 50, NONE, 143);
        SelfLaw x = Laws.of("C2,17,4");
        Laws.tell(x, 0, "B1");
        CHECK.due("7: second form", x.about(0, 2, 1), 1);
        CHECK.due("7: form 3", x.about(0, 3, 0), UNKNOWN);
        CHECK.due("7: form 0", x.about(0, 0, 0), UNKNOWN);
        CHECK.due("7: form -1", x.about(0, -1, 0), UNKNOWN);
        CHECK.due("7: clause 5", x.about(5, 1, 0), UNKNOWN);
        CHECK.due("7: clause -1", x.about(-1, 1, 0), UNKNOWN);
        CHECK.due("7: what 6", x.about(0, 1, 6), BAD);
        CHECK.due("7: what -1", x.about(0, 1, -1), BAD);
        CHECK.due("7: UNKNOWN ahead of BAD", x.about(0, 3, 6), UNKNOWN);
        CHECK.due("7: UNKNOWN ahead of BAD", x.about(9, 1, 6), UNKNOWN);
    }

    private static void seats() {
        SelfLaw x = new SelfLaw();
        CHECK.due("8: first", x.seats(2, 3, 99), 0);
        CHECK.due("8: what they were", x.seats(2, 3, 7), 99);
        CHECK.due("8: body 3", x.seats(3, 0, 1), UNKNOWN);
        CHECK.due("8: body -1", x.seats(-1, 0, 1), UNKNOWN);
        CHECK.due("8: group 4", x.seats(0, 4, 1), UNKNOWN);
        CHECK.due("8: group -1", x.seats(1, -1, 1), UNKNOWN);
        CHECK.due("8: 100", x.seats(2, 3, 100), BAD);
        CHECK.due("8: -1", x.seats(2, 3, -1), BAD);
        CHECK.due("8: UNKNOWN ahead of BAD", x.seats(3, 3, 100), UNKNOWN);
        CHECK.due("8: unchanged", x.seats(2, 3, 0), 7);
        CHECK.due("8: others", x.seats(0, 3, 0), 0);
        CHECK.due("8: others", x.seats(2, 2, 0), 0);
    }
}

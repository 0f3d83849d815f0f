import java.util.LinkedHashMap;
import java.util.Map;

/**
 * "What is refused changes nothing": every refusal of every call. Nor does what only asks. And an object answers
 * until its 512th call.
 */
public final class EdgeCallsTest {
    private static final int UNKNOWN = Edges.UNKNOWN, BAD = Edges.BAD, LATE = Edges.LATE, FULL = Edges.FULL;
    private static final Check CHECK = new Check("EdgeCallsTest");

    public static void main(String[] args) {
        refusedCallsChangeNothing();
        refusedAsksChangeNothing();
        refusedByAFullRollChangesNothing();
        refusedByAFullTextChangesNothing();
        asksChangeNothing();
        fiveHundredAndTwelveCalls();
        fiveHundredAndTwelveSearches();
        CHECK.end();
    }

    /** The call answers so on a filled object, which is then like one on which nothing was called. */
    private static void changesNothing(String name, Edges.Call call, int want) {
        SelfLaw x = Edges.filled();
        CHECK.due(name, call.on(x), want);
        CHECK.due(name + " again", call.on(x), want);
        boolean same = Edges.allOf(x).equals(Edges.allOf(Edges.filled()));
        CHECK.due(name + " changes nothing", same ? 1 : 0, 1);
    }

    private static void refusedCallsChangeNothing() {
        changesNothing("2: write(0, ..)", x -> x.write(0, 66), BAD);
        changesNothing("2: write(9, ..)", x -> x.write(9, 66), BAD);
        changesNothing("2: write(4, ..) behind 17", x -> x.write(4, 66), FULL);
        changesNothing("5: form(-1)", x -> x.form(-1), UNKNOWN);
        changesNothing("5: form(5)", x -> x.form(5), UNKNOWN);
        changesNothing("5: form(0), a fourth one", x -> x.form(0), FULL);
        changesNothing("6: unform(-1)", x -> x.unform(-1), UNKNOWN);
        changesNothing("6: unform(5)", x -> x.unform(5), UNKNOWN);
        changesNothing("7: about(5, 1, 0)", x -> x.about(5, 1, 0), UNKNOWN);
        changesNothing("7: about(0, 4, 0)", x -> x.about(0, 4, 0), UNKNOWN);
        changesNothing("7: about(0, 1, 6)", x -> x.about(0, 1, 6), BAD);
        changesNothing("8: seats(-1, 0, 9)", x -> x.seats(-1, 0, 9), UNKNOWN);
        changesNothing("8: seats(3, 0, 9)", x -> x.seats(3, 0, 9), UNKNOWN);
        changesNothing("8: seats(0, -1, 9)", x -> x.seats(0, -1, 9), UNKNOWN);
        changesNothing("8: seats(1, -1, 9)", x -> x.seats(1, -1, 9), UNKNOWN);
        changesNothing("8: seats(0, 4, 9)", x -> x.seats(0, 4, 9), UNKNOWN);
        changesNothing("8: seats(0, 0, -1)", x -> x.seats(0, 0, -1), BAD);
        changesNothing("8: seats(0, 0, 100)", x -> x.seats(0, 0, 100), BAD);
        changesNothing("9: stand(-1, 0)", x -> x.stand(-1, 0), UNKNOWN);
        changesNothing("9: stand(5, 0)", x -> x.stand(5, 0), UNKNOWN);
        changesNothing("9: stand(1, 3)", x -> x.stand(1, 3), BAD);
        changesNothing("9: stand(0, 4)", x -> x.stand(0, 4), BAD);
        changesNothing("9: stand(0, -1)", x -> x.stand(0, -1), BAD);
        changesNothing("9: stand(4, 1)", x -> x.stand(4, 1), BAD);
        changesNothing("10: thing(-1, true)", x -> x.thing(-1, true), UNKNOWN);
        changesNothing("10: thing(4, true)", x -> x.thing(4, true), UNKNOWN);
        changesNothing("10: thing(-8, false)", x -> x.thing(-8, false), UNKNOWN);
        changesNothing("18: act(16, 100)", x -> x.act(16, 100), BAD);
        changesNothing("18: act(-1, 100)", x -> x.act(-1, 100), BAD);
        changesNothing("18: act(1, 101)", x -> x.act(1, 101), BAD);
        changesNothing("18: act(1, 140)", x -> x.act(1, 140), BAD);
        changesNothing("18: act(1, 500)", x -> x.act(1, 500), BAD);
        changesNothing("18: act(1, -10)", x -> x.act(1, -10), BAD);
        changesNothing("18: no such act", x -> x.act(1, 30), 1);
        changesNothing("18: too few seats", x -> x.act(2, 20), 3);
        changesNothing("18: nothing otherwise", x -> x.act(1, 10), 5);
        changesNothing("32: roll(16, 0)", x -> x.roll(16, 0), BAD);
        changesNothing("32: roll(-1, 0)", x -> x.roll(-1, 0), BAD);
        changesNothing("32: roll(0, 1)", x -> x.roll(0, 1), BAD);
        changesNothing("32: roll(0, 500)", x -> x.roll(0, 500), BAD);
        changesNothing("35: keep(-1)", x -> x.keep(-1), UNKNOWN);
        changesNothing("35: keep(3)", x -> x.keep(3), UNKNOWN);
        changesNothing("36: again(-1)", x -> x.again(-1), UNKNOWN);
        changesNothing("36: again(3)", x -> x.again(3), UNKNOWN);
        changesNothing("36: again(2), where nothing is kept", x -> x.again(2), LATE);
        changesNothing("37: count(6)", x -> x.count(6), BAD);
    }

    private static void refusedAsksChangeNothing() {
        changesNothing("11: at(5)", x -> x.at(5), UNKNOWN);
        changesNothing("12: force(-1)", x -> x.force(-1), UNKNOWN);
        changesNothing("13: votes(16, 0)", x -> x.votes(16, 0), BAD);
        changesNothing("13: votes(15, 3)", x -> x.votes(15, 3), UNKNOWN);
        changesNothing("14: is(2)", x -> x.is(2), BAD);
        changesNothing("15: acts(16)", x -> x.acts(16), BAD);
        changesNothing("16: which(-1, 0)", x -> x.which(-1, 0), BAD);
        changesNothing("17: why(16, 20)", x -> x.why(16, 20), BAD);
        changesNothing("17: why(15, 25)", x -> x.why(15, 25), BAD);
        changesNothing("19: reach(16)", x -> x.reach(16), BAD);
        changesNothing("20: among(16, 11)", x -> x.among(16, 11), BAD);
        changesNothing("20: among(15, 12)", x -> x.among(15, 12), BAD);
        changesNothing("21: shortest(16, 112)", x -> x.shortest(16, 112), BAD);
        changesNothing("21: shortest(15, 114)", x -> x.shortest(15, 114), BAD);
        changesNothing("22: step(-1, 112, 0)", x -> x.step(-1, 112, 0), BAD);
        changesNothing("22: step(15, 40, 0)", x -> x.step(15, 40, 0), BAD);
        changesNothing("23: who(150)", x -> x.who(150), BAD);
        changesNothing("24: forGood(-1)", x -> x.forGood(-1), BAD);
        changesNothing("25: trap(16, 11)", x -> x.trap(16, 11), BAD);
        changesNothing("25: trap(15, 99)", x -> x.trap(15, 99), BAD);
        changesNothing("26: hold(16, 101)", x -> x.hold(16, 101), BAD);
        changesNothing("26: hold(15, 32)", x -> x.hold(15, 32), BAD);
        changesNothing("27: hangs(-1, 101)", x -> x.hangs(-1, 101), BAD);
        changesNothing("27: hangs(15, 104)", x -> x.hangs(15, 104), BAD);
        changesNothing("28: remedy(16, 111)", x -> x.remedy(16, 111), BAD);
        changesNothing("28: remedy(15, 150)", x -> x.remedy(15, 150), BAD);
        changesNothing("29: sure(16, 2, 11, 8)", x -> x.sure(16, 2, 11, 8), BAD);
        changesNothing("29: sure(1, 16, 11, 8)", x -> x.sure(1, 16, 11, 8), BAD);
        changesNothing("29: sure(1, 2, 12, 8)", x -> x.sure(1, 2, 12, 8), BAD);
        changesNothing("29: sure(1, 2, 11, 9)", x -> x.sure(1, 2, 11, 9), BAD);
        changesNothing("30: begin(16, 2, 11, 1)", x -> x.begin(16, 2, 11, 1), BAD);
        changesNothing("30: begin(1, -1, 11, 1)", x -> x.begin(1, -1, 11, 1), BAD);
        changesNothing("30: begin(1, 2, 40, 1)", x -> x.begin(1, 2, 40, 1), BAD);
        changesNothing("30: begin(1, 2, 11, 0)", x -> x.begin(1, 2, 11, 0), BAD);
        changesNothing("31: idle(16, 1)", x -> x.idle(16, 1), BAD);
        changesNothing("31: idle(15, 5)", x -> x.idle(15, 5), UNKNOWN);
    }

    private static void refusedByAFullRollChangesNothing() {
        SelfLaw x = Edges.filledRoll();
        CHECK.due("32: row 21", x.roll(15, 430), FULL);
        CHECK.due("32: row 21", x.roll(15, 100), FULL);
        boolean same = Edges.allOf(x).equals(Edges.allOf(Edges.filledRoll()));
        CHECK.due("32: a full roll is as it was", same ? 1 : 0, 1);
    }

    private static void refusedByAFullTextChangesNothing() {
        for (int n = 1; n <= 8; n++) {
            SelfLaw x = Edges.filled();
            SelfLaw y = Edges.filled();
            x.write(3, 0x3f312b);
            y.write(3, 0x3f312b);
            CHECK.due("2: " + n + " bytes behind 20", x.write(n, 0x4242424242424242L), FULL);
            CHECK.due("5: a fault in a full text", x.form(4), LATE);
            CHECK.due("2: a full text is as it was", Edges.allOf(x).equals(Edges.allOf(y)) ? 1 : 0, 1);
        }
    }

    // ---- The calls that only ask leave the object as it was.

    private static void asksChangeNothing() {
        Map<String, Edges.Call> asks = new LinkedHashMap<>();
        asks.put("4: fault", x -> x.fault());
        asks.put("7: about", x -> x.about(0, 3, 4));
        asks.put("11: at", x -> x.at(0));
        asks.put("12: force", x -> x.force(2));
        asks.put("13: votes", x -> x.votes(15, 1));
        asks.put("14: is", x -> x.is(101));
        asks.put("15: acts", x -> x.acts(15));
        asks.put("16: which", x -> x.which(15, 1));
        asks.put("17: why", x -> x.why(15, 20));
        asks.put("19: reach", x -> x.reach(15));
        asks.put("20: among", x -> x.among(15, 11));
        asks.put("21: shortest", x -> x.shortest(15, 112));
        asks.put("22: step", x -> x.step(15, 112, 0));
        asks.put("23: who", x -> x.who(112));
        asks.put("24: forGood", x -> x.forGood(21));
        asks.put("25: trap", x -> x.trap(15, 11));
        asks.put("26: hold", x -> x.hold(15, 101));
        asks.put("27: hangs", x -> x.hangs(15, 101));
        asks.put("28: remedy", x -> x.remedy(15, 111));
        asks.put("29: sure", x -> x.sure(1, 2, 11, 8));
        asks.put("30: begin", x -> x.begin(1, 2, 11, 1));
        asks.put("31: idle", x -> x.idle(15, 1));
        asks.put("34: judge", x -> x.judge(false));
        asks.put("37: count", x -> x.count(5));
        String untouched = Edges.allOf(Edges.filled());
        for (Map.Entry<String, Edges.Call> ask : asks.entrySet()) {
            SelfLaw x = Edges.filled();
            int answer = ask.getValue().on(x);
            CHECK.due(ask.getKey() + " twice", ask.getValue().on(x), answer);
            CHECK.due(ask.getKey() + " changes nothing", Edges.allOf(x).equals(untouched) ? 1 : 0, 1);
        }
    }

    // ---- "An object is used for at most 512 calls after it has been made"

    private static void fiveHundredAndTwelveCalls() {
        SelfLaw x = new SelfLaw();
        for (int round = 0; round < 73; round++) {
            CHECK.due("2: round " + round, x.write(2, 0x4230), 2);
            CHECK.due("5: round " + round, x.form(round % 5), 1);
            CHECK.due("32: round " + round, x.roll(15, 0), 1);
            CHECK.due("35: round " + round, x.keep(round % 3), round < 3 ? 1 : 0);
            CHECK.due("3: round " + round, x.wipe(), 2);
            CHECK.due("6: round " + round, x.unform(round % 5), 1);
            CHECK.due("33: round " + round, x.unroll(), 1);
        }
        CHECK.due("10: the 512th call", x.thing(3, true), 0);
    }

    private static void fiveHundredAndTwelveSearches() {
        SelfLaw x = Laws.of("D0,2,0+", "D0,1,0-", "C0,1,0", "S0,1,1");
        x.seats(0, 2, 1);
        x.seats(0, 3, 1);
        for (int round = 0; round < 68; round++) {
            CHECK.due("19: round " + round, x.reach(12), 4);
            CHECK.due("23: round " + round, x.who(1), 12);
            CHECK.due("25: round " + round, x.trap(12, 1), 2);
            CHECK.due("27: round " + round, x.hangs(4, 0), 0);
            CHECK.due("28: round " + round, x.remedy(8, 111), 1);
            CHECK.due("29: round " + round, x.sure(12, 4, 1, 8), 1);
            CHECK.due("31: round " + round, x.idle(12, 1), 1);
        }
        CHECK.due("30: one of the last calls", x.begin(12, 4, 1, 2), 300);
    }
}

import java.util.Random;

/** Runs of random calls, the same ones each time: every answer of the class against the plain model's. */
public final class RandomRunsTest {
    private static final int RUNS = 2000;
    private static final int CALLS = 40;
    private static final Check CHECK = new Check("RandomRunsTest");
    private static final String SIGNS = "CSDBV0123456789,+-?=x";

    private final Random random;
    private final SelfLaw x = new SelfLaw();
    private final PlainLaw y = new PlainLaw();
    private final int run;

    private RandomRunsTest(int run) {
        this.run = run;
        random = new Random(run);
    }

    public static void main(String[] args) {
        int runs = args.length > 0 ? Integer.parseInt(args[0]) : RUNS;
        for (int run = 0; run < runs; run++) {
            RandomRunsTest test = new RandomRunsTest(run);
            test.tellLaw();
            for (int call = 0; call < CALLS; call++) {
                test.call();
            }
        }
        CHECK.end();
    }

    private void due(String call, int got, int want) {
        CHECK.due("run " + run + ": " + call, got, want);
    }

    private int below(int n) {
        return random.nextInt(n);
    }

    private boolean rarely() {
        return below(25) == 0;
    }

    private int clause() {
        return rarely() ? below(9) - 2 : below(5);
    }

    private int set() {
        return rarely() ? below(24) - 4 : below(2) == 0 ? below(16) : below(16) | below(16);
    }

    private int goal() {
        if (rarely()) {
            return below(170) - 5;
        }
        return below(3) > 0 ? 10 * below(4) + below(2) : 100 + 10 * below(5) + below(4);
    }

    private int act() {
        return rarely() ? below(600) - 20 : 100 * below(5) + 10 * below(4);
    }

    /** A law of many forms that mostly can be used: few seats asked for, some given to all. */
    private void tellLaw() {
        for (int body = 0; body < 3; body++) {
            for (int group = 0; group < 4; group++) {
                int n = body == 0 ? 1 + below(3) : below(2) * below(5);
                due("seats", x.seats(body, group, n), y.seats(body, group, n));
            }
        }
        for (int clause = 0; clause < 5; clause++) {
            int forms = below(8) == 0 ? 0 : 1 + below(3);
            for (int i = 0; i < forms; i++) {
                putText(formText());
                due("form " + clause, x.form(clause), y.form(clause));
            }
            int form = forms == 0 ? 0 : 1 + below(forms);
            due("stand", x.stand(clause, form), y.stand(clause, form));
        }
    }

    private String number(int n) {
        return below(6) == 0 && n < 10 ? "0" + n : "" + n;
    }

    private String formText() {
        String q = number(below(12) == 0 ? 1 + below(99) : 1 + below(4));
        String body = number(below(4) == 0 ? below(3) : 0);
        String form;
        switch (below(9)) {
            case 0:
            case 1:
            case 2:
                form = "C" + body + "," + q + "," + number(below(5));
                break;
            case 3:
                form = (below(3) == 0 ? "S" : "C") + body + "," + q + "," + number(below(5));
                break;
            case 4:
            case 5:
            case 6:
                form = "D" + body + "," + q + "," + number(below(4)) + (below(3) > 0 ? "+" : "-");
                break;
            case 7:
                form = "B" + number(below(5));
                break;
            default:
                form = "V" + body + "," + number(below(4)) + "," + q;
        }
        switch (below(7)) {
            case 0:
                return form + "?" + number(below(4)) + (below(2) > 0 ? "+" : "-");
            case 1:
                return form + "?=" + number(below(5)) + "," + number(below(4));
            default:
                return form;
        }
    }

    private String brokenText() {
        StringBuilder text = new StringBuilder(formText());
        int place = below(text.length());
        char sign = rarely() ? (char) below(256) : SIGNS.charAt(below(SIGNS.length()));
        switch (below(4)) {
            case 0:
                text.setCharAt(place, sign);
                break;
            case 1:
                text.insert(place, sign);
                break;
            case 2:
                text.deleteCharAt(place);
                break;
            default:
                text.setLength(place);
        }
        return text.toString();
    }

    private void putText(String text) {
        due("wipe", x.wipe(), y.wipe());
        for (int start = 0; start < text.length();) {
            int n = Math.min(1 + below(8), text.length() - start);
            long v = random.nextLong();
            for (int i = start; i < start + n; i++) {
                v = v << 8 | text.charAt(i);
            }
            due("write", x.write(n, v), y.write(n, v));
            start += n;
        }
    }

    private void call() {
        switch (below(8)) {
            case 0:
                callOnTexts();
                break;
            case 1:
                callOnState();
                break;
            case 2:
            case 3:
                callOnActs();
                break;
            case 4:
            case 5:
                callOnReach();
                break;
            case 6:
                callOnTurns();
                break;
            default:
                callOnRoll();
        }
    }

    private void callOnTexts() {
        int clause = clause();
        int form = below(6) - 1;
        int what = below(8) - 1;
        switch (below(8)) {
            case 0:
            case 1:
            case 2:
                String text = brokenText();
                putText(text);
                due("fault of " + text, x.fault(), y.fault());
                break;
            case 3:
                putText(formText());
                due("fault", x.fault(), y.fault());
                break;
            case 4:
                due("form " + clause, x.form(clause), y.form(clause));
                break;
            case 5:
                if (below(5) == 0) {
                    due("unform " + clause, x.unform(clause), y.unform(clause));
                }
                break;
            case 6:
                int n = below(12) - 1;
                long v = random.nextLong();
                due("write", x.write(n, v), y.write(n, v));
                due("fault", x.fault(), y.fault());
                break;
            default:
                due("about", x.about(clause, form, what), y.about(clause, form, what));
        }
    }

    private void callOnState() {
        int clause = clause();
        int form = below(6) - 1;
        int thing = rarely() ? below(8) - 2 : below(4);
        int body = rarely() ? below(7) - 2 : below(3);
        int group = rarely() ? below(8) - 2 : below(4);
        int n = rarely() ? below(140) - 20 : below(6);
        int set = set();
        int goal = goal();
        boolean is = random.nextBoolean();
        due("seats", x.seats(body, group, n), y.seats(body, group, n));
        if (below(3) == 0) {
            due("stand", x.stand(clause, form), y.stand(clause, form));
        }
        due("thing", x.thing(thing, is), y.thing(thing, is));
        due("at", x.at(clause), y.at(clause));
        due("force", x.force(clause), y.force(clause));
        due("votes", x.votes(set, body), y.votes(set, body));
        due("is", x.is(goal), y.is(goal));
    }

    private void callOnActs() {
        int set = set();
        int act = act();
        int i = below(6) - 1;
        due("acts " + set, x.acts(set), y.acts(set));
        due("which " + set + " " + i, x.which(set, i), y.which(set, i));
        due("why " + set + " " + act, x.why(set, act), y.why(set, act));
        int lawful = y.which(set, below(4));
        if (lawful >= 0 && below(2) == 0) {
            due("act " + set + " " + lawful, x.act(set, lawful), y.act(set, lawful));
        } else {
            due("act " + set + " " + act, x.act(set, act), y.act(set, act));
        }
    }

    private void callOnReach() {
        int set = set();
        int goal = goal();
        int i = rarely() ? below(9) - 3 : below(3);
        String with = " " + set + " " + goal;
        switch (below(5)) {
            case 0:
                due("reach " + set, x.reach(set), y.reach(set));
                due("among" + with, x.among(set, goal), y.among(set, goal));
                break;
            case 1:
                due("shortest" + with, x.shortest(set, goal), y.shortest(set, goal));
                due("step" + with + " " + i, x.step(set, goal, i), y.step(set, goal, i));
                break;
            case 2:
                due("who " + goal, x.who(goal), y.who(goal));
                due("forGood " + goal, x.forGood(goal), y.forGood(goal));
                break;
            case 3:
                due("trap" + with, x.trap(set, goal), y.trap(set, goal));
                due("hold" + with, x.hold(set, goal), y.hold(set, goal));
                break;
            default:
                due("hangs" + with, x.hangs(set, goal), y.hangs(set, goal));
                due("remedy" + with, x.remedy(set, goal), y.remedy(set, goal));
        }
    }

    private void callOnTurns() {
        int set = set();
        int other = set();
        int goal = goal();
        int turns = rarely() ? below(12) - 1 : 1 + below(4);
        int clause = clause();
        String with = " " + set + " " + other + " " + goal + " " + turns;
        switch (below(3)) {
            case 0:
                due("sure" + with, x.sure(set, other, goal, turns), y.sure(set, other, goal, turns));
                break;
            case 1:
                due("begin" + with, x.begin(set, other, goal, turns), y.begin(set, other, goal, turns));
                break;
            default:
                due("idle " + set + " " + clause, x.idle(set, clause), y.idle(set, clause));
        }
    }

    private void callOnRoll() {
        int set = set();
        int act = act();
        int slot = rarely() ? below(7) - 2 : below(3);
        switch (below(7)) {
            case 0:
            case 1:
                due("roll", x.roll(set, act), y.roll(set, act));
                break;
            case 2:
                int lawful = y.which(set, below(3));
                due("roll", x.roll(set, lawful), y.roll(set, lawful));
                break;
            case 3:
                if (below(3) == 0) {
                    due("unroll", x.unroll(), y.unroll());
                }
                break;
            case 4:
                due("keep " + slot, x.keep(slot), y.keep(slot));
                break;
            case 5:
                due("again " + slot, x.again(slot), y.again(slot));
                break;
            default:
                int what = below(8) - 1;
                due("count " + what, x.count(what), y.count(what));
        }
        due("judge", x.judge(false), y.judge(false));
        due("judge why", x.judge(true), y.judge(true));
    }
}

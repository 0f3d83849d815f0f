/** Short ways to tell a law to a SelfLaw. */
final class Laws {
    private Laws() {
    }

    /** Puts a text behind what there is, eight bytes at a time; the answer of the last write. */
    static int append(SelfLaw x, String text) {
        int answer = 0;
        for (int start = 0; start < text.length(); start += 8) {
            int end = Math.min(text.length(), start + 8);
            long v = 0;
            for (int i = start; i < end; i++) {
                v = v << 8 | text.charAt(i) & 255;
            }
            answer = x.write(end - start, v);
        }
        return answer;
    }

    static int faultOf(SelfLaw x, String text) {
        x.wipe();
        append(x, text);
        return x.fault();
    }

    /** Tells a clause one form more. */
    static int tell(SelfLaw x, int clause, String text) {
        x.wipe();
        append(x, text);
        return x.form(clause);
    }

    /** A law whose clauses 0, 1, .. stand by their first forms; "" leaves a clause without a form. */
    static SelfLaw of(String... forms) {
        SelfLaw x = new SelfLaw();
        for (int clause = 0; clause < forms.length; clause++) {
            if (!forms[clause].isEmpty()) {
                if (tell(x, clause, forms[clause]) != 1 || x.stand(clause, 1) != 0) {
                    throw new IllegalStateException("no form: " + forms[clause]);
                }
            }
        }
        return x;
    }

    /** All that the calls tell of an object without a search, to see that nothing was changed. */
    static String picture(SelfLaw x) {
        StringBuilder all = new StringBuilder();
        for (int clause = 0; clause < 5; clause++) {
            all.append(x.at(clause)).append(' ');
            for (int form = 1; form <= 3; form++) {
                for (int what = 0; what <= 5; what++) {
                    all.append(x.about(clause, form, what)).append(' ');
                }
            }
        }
        for (int thing = 0; thing < 4; thing++) {
            all.append(x.is(10 * thing + 1)).append(' ');
        }
        for (int body = 0; body < 3; body++) {
            for (int group = 0; group < 4; group++) {
                all.append(x.votes(1 << group, body)).append(' ');
            }
        }
        for (int what = 0; what <= 5; what++) {
            all.append(x.count(what)).append(' ');
        }
        return all.append(x.fault()).append(' ').append(x.judge(false)).toString();
    }
}

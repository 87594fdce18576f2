/** What an object can be asked, as a text: two objects that differ in what they hold differ in it. */
final class Told {
    private static final int[] PARTS = {0, 1, 2, 3, 4, 14, 15};
    private static final int[] PLACES = {0, 1, 2, 3, 15, 16, 59};

    private Told() {
    }

    /** Some 300 calls, so that an object stays within its 512. */
    static String all(PastWeb web) {
        StringBuilder all = new StringBuilder();
        for (int what = 0; what < 3; what++) {
            all.append(web.count(what)).append(' ');
        }
        int states = web.count(0);
        for (int state = 0; state < states; state += state == 0 && states > 3 ? states - 2 : 1) {
            tellState(all.append("\nstate ").append(state).append(": "), web, state);
        }
        int terms = web.count(1);
        for (int term = 0; term < terms; term += term == 2 && terms > 5 ? terms - 4 : 1) {
            tellTerm(all.append("\nterm ").append(term).append(": "), web, term);
        }
        all.append("\nkept: ");
        for (int kept = 0; kept < 6; kept++) {
            for (int what = 0; what < 4; what++) {
                all.append(web.news(kept, what)).append(' ');
            }
        }
        for (int d = 0; d < 8; d++) {
            all.append("\nshelf ").append(d).append(": ").append(web.weight(d)).append(' ').append(web.toss(d));
            for (int i : PLACES) {
                all.append(' ').append(Check.element(web, d, i));
            }
        }
        return all.toString();
    }

    private static void tellState(StringBuilder all, PastWeb web, int state) {
        for (int what = 0; what < 7; what++) {
            all.append(web.look(state, what)).append(' ');
        }
        for (int part : PARTS) {
            for (int what = 0; what < 6; what++) {
                all.append(web.part(state, part, what)).append(' ');
            }
        }
    }

    private static void tellTerm(StringBuilder all, PastWeb web, int term) {
        for (int what = 0; what < 4; what++) {
            all.append(web.told(term, what)).append(' ');
        }
        all.append(web.span(term, 0, 1, 2, false)).append(' ').append(web.span(term, 0, 1, 2, true)).append(' ');
        all.append(web.rows(term, false)).append(' ').append(web.rows(term, true)).append(' ');
    }

    /** The first n elements of a shelf's row. */
    static String row(PastWeb web, int d, int n) {
        StringBuilder all = new StringBuilder();
        for (int i = 0; i < n; i++) {
            all.append(i == 0 ? "" : " ").append(Check.element(web, d, i));
        }
        return all.toString();
    }
}

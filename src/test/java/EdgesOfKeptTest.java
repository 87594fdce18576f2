/** The sentences about kept terms and shelves that name an edge (Terms, promises 23 to 33), each with its own test. */
public final class EdgesOfKeptTest {
    private static final int MIN = Integer.MIN_VALUE;
    private static final int MAX = Integer.MAX_VALUE;
    private static final String NO_PLACE = "throws.IllegalStateException";
    private static final String NO_SHELF = "throws.IllegalArgumentException";
    private static final Check check = new Check();

    private static void due(String call, long got, long want) {
        check.due(call, got, want);
    }

    private static void due(String call, String got, String want) {
        check.due(call, got, want);
    }

    private static String at(String call, int... numbers) {
        return call + java.util.Arrays.toString(numbers);
    }

    /** NEWS, GONE, LONGER, OTHER of a kept one. */
    private static String news(PastWeb web, int kept) {
        return web.news(kept, 0) + " " + web.news(kept, 1) + " " + web.news(kept, 2) + " " + web.news(kept, 3);
    }

    /** Parts 0 and 1 are there in states 0 and 1; THERE 0 is kept. */
    private static PastWeb keptThere() {
        PastWeb web = Webs.parts(2);
        web.state(0, -1);
        web.of(0, 0, 0);
        web.keepTerm(0);
        return web;
    }

    // ---- Terms

    private static void numbersOfKept() {
        check.says(0, "KEPT TERMS 0 .. 5: each with its ROWS and SPANS as they were when it was KEPT or FRESHENED last.");
        PastWeb web = Webs.parts(0);
        web.of(0, 0, 0);
        for (int i = 0; i < 6; i++) {
            due("keepTerm", web.keepTerm(0), i);
            web.put(i, 0, 0);
        }
        due("keepTerm of 6", web.keepTerm(0), -2);
        for (int i = 0; i < 6; i++) {
            due("NEWS of " + i, web.news(i, 0), 6 - i);
        }
        due("NEWS of 6", web.news(6, 0), -1);
        due("fresh(2, 0)", web.fresh(2, 0), 4);
        web.put(15, 0, 0);
        due("of the fresh one", web.news(2, 0), 1);
        due("of the one before it", web.news(1, 0), 6);
        due("of the one behind it", web.news(3, 0), 4);
    }

    private static void kindsOfNews() {
        check.says(0, "NEWS: ROWS that weren't there; GONE ones;");
        PastWeb web = keptThere();
        due("nothing changed", news(web, 0), "0 0 0 0");
        web.put(15, 0, 0);
        due("one came", news(web, 0), "1 0 0 0");
        web.gone(15);
        due("and went", news(web, 0), "0 0 0 0");
        web.fresh(0, 0);
        web.state(-1, -1);
        web.put(2, 0, 0);
        web.put(3, 0, 0);
        due("in a state that came", news(web, 0), "2 0 0 0");
        web.fresh(0, 0);
        web.gone(2);
        due("one of them went", news(web, 0), "0 1 0 0");
        web.read(false);
        due("by spans, not by wide ones", news(web, 0), "0 2 0 0");
        due("of no states", newsOfNone(), "0 0 0 0");

        check.says(0, "LONGER: with a SPAN that has more STATES (by how many); OTHER: with another SPAN that has no more (LONGER, "
                + "OTHER: of ROWS that were there and are).");
        web = keptThere();
        web.state(1, -1);
        due("one state more, of two rows", news(web, 0), "0 0 2 0");
        web.state(2, -1);
        due("two states more, of two rows", news(web, 0), "0 0 2 0");
        web.gone(0);
        due("two states more, and one", news(web, 0), "0 0 2 0");
        web = keptThere();
        web.gone(0);
        due("one state less", news(web, 0), "0 0 0 1");
        web.state(0, -1);
        due("one less, one more", news(web, 0), "0 0 1 1");
        web.state(0, -1);
        due("one less, two more", news(web, 0), "0 0 2 0");
        web.put(5, 0, 0);
        due("a row that was not there is not LONGER", news(web, 0), "1 0 2 0");
        due("a row that is not there is not OTHER", goneIsNotOther(), "0 1 0 0");
    }

    private static String newsOfNone() {
        PastWeb web = Webs.none();
        web.of(0, 0, 0);
        web.keepTerm(0);
        return news(web, 0);
    }

    private static String goneIsNotOther() {
        PastWeb web = Webs.parts(1);
        web.of(0, 0, 0);
        web.keepTerm(0);
        web.gone(0);
        return news(web, 0);
    }

    private static void whatShelvesHold() {
        check.says(0, "SHELVES 0 .. 7 each hold nothing (at first), a TERM, a ROW of ints or bytes.");
        for (int d = 0; d < 8; d++) {
            PastWeb web = Webs.parts(1);
            web.of(0, 0, 0);
            due("at first", web.weight(d), -11);
            due("at first", Check.element(web, d, 0), NO_PLACE);
            due("a term", web.keep(d, 1, 0), 0);
            due("its weight", web.weight(d), 11);
            due("ints", web.keep(d, 3, 0), 0);
            due("no term", web.weight(d), -12);
            due("an int", Check.element(web, d, 0), "1");
            due("bytes", web.keep(d, 4, 0), 0);
            due("a byte", Check.element(web, d, 1), "-1");
            due("a term again", web.keep(d, 1, 0), 0);
            due("no byte", Check.element(web, d, 1), NO_PLACE);
            due("nothing", web.keep(d, 0, 0), 0);
            due("nothing's weight", web.weight(d), -11);
            due("the next one", web.weight((d + 1) % 8), -11);
        }
        due("shelf -1", Webs.busy().weight(-1), -1);
        due("shelf 8", Webs.busy().weight(8), -1);
    }

    private static void refusals() {
        check.says(0, "-11 nothing is held where something is wanted; -12 it is of another kind; -13 a place that it doesn't have; "
                + "-14 a size below 0; -15 a FAILURE that is none.");
        PastWeb web = Webs.busy();
        due("-11", web.toss(6), -11);
        due("-12", web.toss(1), -12);
        due("-13", web.copy(1, 3, 1, 0, 1), -13);
        due("-14", web.make(1, 3, -1), -14);
        due("-15", web.toss(5), -15);

        check.says(0, "Answers of several refusals are the first one here: -1 no such thing, a number out of range, or not as told; "
                + "-2, -3, -4, -5, -11 to -15 as told.");
        due("-1 ahead of -2", Webs.full().state(0, 0), -1);
        due("-1 ahead of -3", Webs.none().put(0, 4, 0), -1);
        due("-1 ahead of -4", web.link(3, 0, 5, true), -1);
        due("-1 ahead of -5", web.span(Webs.DEAR, 16, 0, 0, false), -1);
        due("-1 ahead of -11", web.copy(6, 0, 8, 0, 0), -1);
        due("-1 ahead of -14", web.make(0, 2, -1), -1);
        due("-2 ahead of -5", tooDearOfFull(), -2);
        due("-3 ahead of -4", Webs.none().gone(0), -3);
        due("-4 ahead of -5", dearAndThird(), -4);
        due("-11 ahead of -12", web.copy(0, 0, 6, 0, 0), -11);
        due("-11 ahead of -13", web.copy(7, -1, 1, 0, 0), -11);
        due("-12 ahead of -13", web.copy(1, -1, 2, 0, 0), -12);

        check.says(0, "A refused call changes nothing.");
        check.refused("state", Webs::full, made -> made.state(-1, -1), -2);
        check.refused("fresh", Webs::busy, made -> made.fresh(0, 4), -1);
        check.refused("keep", Webs::busy, made -> made.keep(0, 3, Webs.THIRD), -4);
        check.refused("make", Webs::busy, made -> made.make(0, 3, -1), -14);
        check.refused("copy", Webs::busy, made -> made.copy(1, 0, 3, 2, 3), -13);
    }

    private static int tooDearOfFull() {
        PastWeb web = Webs.none();
        int dearest = Webs.costing(web, 100000, 0);
        while (web.count(1) < 60) {
            web.of(0, 0, 0);
        }
        return web.term(6, dearest, 0);
    }

    private static int dearAndThird() {
        PastWeb web = Webs.none();
        return web.keepTerm(Webs.costing(web, 601, 2));
    }

    // ---- promises

    private static void promise23() {
        check.says(23, "A TERM is KEPT: its number among these. -1; -4; -5; -2 (here behind these): there are 6.");
        for (int w : new int[] {-1, Webs.BUSY_TERMS, 60, MIN, MAX}) {
            check.refused("keepTerm(" + w + ")", Webs::busy, made -> made.keepTerm(w), -1);
        }
        check.refused("keepTerm of THERE 2", Webs::busy, made -> made.keepTerm(Webs.THIRD), -4);
        check.refused("keepTerm of 785", Webs::busy, made -> made.keepTerm(Webs.DEAR), -5);
        check.refused("keepTerm of 6", Webs::full, made -> made.keepTerm(Webs.LINK), -2);
        check.refused("keepTerm of 6, THERE 2", Webs::full, made -> made.keepTerm(Webs.THIRD), -4);
        check.refused("keepTerm of 6, 785", Webs::full, made -> made.keepTerm(Webs.DEAR), -5);
        check.refused("keepTerm of 6, no such term", Webs::full, made -> made.keepTerm(60), -1);
        PastWeb web = Webs.busy();
        for (int i = 2; i < 6; i++) {
            due("keepTerm", web.keepTerm(Webs.THERE), i);
        }
        due("keepTerm of 6", web.keepTerm(Webs.THERE), -2);
        due("keepTerm of none", Webs.none().keepTerm(0), -1);
        web = Webs.none();
        int dear = Webs.costing(web, 600, 0);
        due("keepTerm of 600", web.keepTerm(dear), 0);
        due("keepTerm of 601", web.keepTerm(web.term(6, dear, 0)), -5);
        due("keepTerm of 601, VARIABLE 2 FREE", web.keepTerm(Webs.costing(web, 601, 2)), -4);
        due("kept ones", web.count(2), 1);
    }

    private static void promise24() {
        check.says(24, "A KEPT one is FRESHENED: how many ROWS were NEWS (what 0), GONE (1), LONGER (2), OTHER (3) until then. -1.");
        for (int what = 0; what < 4; what++) {
            PastWeb web = changed();
            due(at("fresh", 0, what), web.fresh(0, what), new int[] {3, 1, 2, 1}[what]);
            due("behind it", news(web, 0), "0 0 0 0");
            due("fresh again", web.fresh(0, what), 0);
        }
        due("none of that kind, but FRESHENED", freshenedForNone(), 0);
        refusedOnes("fresh", (web, kept, what) -> web.fresh(kept, what));
        due("the last of 6", Webs.full().fresh(5, 3), 0);
        due("a row LONGER by three states is one", longer(3).fresh(0, 2), 1);
    }

    /** No row is GONE, but one is LONGER: it is not behind that call. */
    private static int freshenedForNone() {
        PastWeb web = longer(1);
        return web.fresh(0, 1) + web.news(0, 2);
    }

    private static void promise25() {
        check.says(25, "The same, but it is not FRESHENED. -1.");
        PastWeb web = changed();
        due("news", news(web, 0), "3 1 2 1");
        due("news again", news(web, 0), "3 1 2 1");
        due("fresh behind it", web.fresh(0, 0), 3);
        refusedOnes("news", (made, kept, what) -> made.news(kept, what));
        due("the last of 6", Webs.full().news(5, 3), 0);
        due("a row LONGER by three states is one", longer(3).news(0, 2), 1);
    }

    interface OfKept {
        int on(PastWeb web, int kept, int what);
    }

    private static void refusedOnes(String name, OfKept call) {
        for (int w : new int[] {-1, 2, 5, 6, MIN, MAX}) {
            for (int what = 0; what < 4; what++) {
                int asked = what;
                check.refused(at(name, w, what), Webs::busy, web -> call.on(web, w, asked), -1);
            }
        }
        for (int w : new int[] {-1, 4, MIN, MAX}) {
            check.refused(at(name, 1, w), Webs::busy, web -> call.on(web, 1, w), -1);
            check.refused(at(name, 2, w), Webs::busy, web -> call.on(web, 2, w), -1);
        }
        due(name + " of none", call.on(Webs.none(), 0, 0), -1);
        due(name + " of 6", call.on(Webs.full(), 6, 0), -1);
    }

    /** THERE 0 was kept; then three parts came, one went, two are there in more states, one in fewer. */
    private static PastWeb changed() {
        PastWeb web = Webs.parts(3);
        web.state(0, -1);
        web.put(4, 0, 0);
        web.of(0, 0, 0);
        web.keepTerm(0);
        web.gone(0);
        web.gone(4);
        web.state(1, -1);
        web.put(8, 0, 0);
        web.put(9, 0, 0);
        web.put(15, 0, 0);
        return web;
    }

    /** Part 0 was there in one state as THERE 0 was kept, and is in so many more. */
    private static PastWeb longer(int states) {
        PastWeb web = Webs.parts(1);
        web.of(0, 0, 0);
        web.keepTerm(0);
        for (int i = 0; i < states; i++) {
            web.state(i, -1);
        }
        return web;
    }

    private static void promise26() {
        check.says(26, "All KEPT ones go: how many.");
        due("of none", Webs.none().forget(), 0);
        due("of two", Webs.busy().forget(), 2);
        PastWeb web = Webs.full();
        due("of six", web.forget(), 6);
        due("count(2)", web.count(2), 0);
        due("forget again", web.forget(), 0);
        due("news of none", web.news(0, 0), -1);
        due("fresh of none", web.fresh(0, 0), -1);
        due("terms stay", web.count(1), 60);
        due("shelves stay", web.weight(0), 11);
        due("keepTerm begins anew", web.keepTerm(Webs.LINK), 0);
        due("as things are now", news(web, 0), "0 0 0 0");
        due("the other ones are gone", web.news(1, 0), -1);
        due("undo is refused again", web.undo(), -4);
    }

    private static void promise27() {
        check.says(27, "0 STATES, 1 TERMS, 2 KEPT ones; -1 for others.");
        for (int what = 0; what < 3; what++) {
            due("of none", Webs.none().count(what), 0);
        }
        int[] busy = {3, Webs.BUSY_TERMS, 2};
        int[] full = {30, 60, 6};
        for (int what = 0; what < 3; what++) {
            due(at("count", what), Webs.busy().count(what), busy[what]);
            due(at("count of full", what), Webs.full().count(what), full[what]);
        }
        for (int w : new int[] {-1, 3, 4, MIN, MAX}) {
            check.refused("count(" + w + ")", Webs::busy, made -> made.count(w), -1);
        }
    }

    private static void promise28() {
        check.says(28, "what = 0 nothing (k does not matter); 1 TERM k;");
        for (int k : new int[] {0, -1, 60, MIN, MAX}) {
            PastWeb web = Webs.busy();
            due("nothing", web.keep(0, 0, k), 0);
            due("is held", web.weight(0), -11);
            due("nothing in place of nothing", web.keep(7, 0, k), 0);
        }
        PastWeb web = Webs.busy();
        for (int k : new int[] {Webs.THERE, Webs.THIRD, Webs.DEAR}) {
            due("a term", web.keep(7, 1, k), 0);
            due("its weight", web.weight(7), k == Webs.DEAR ? 2 * (785 + 40 + 100) : 11);
        }
        due("of 60", Webs.full().keep(7, 1, 59), 0);

        check.says(28, "3 a ROW of ints: for each STATE the number of ROWS of TERM k in whose SPANS it is (-4, -5 as rows())");
        due("ints", web.keep(7, 3, Webs.THERE), 0);
        due("places", Told.row(web, 7, 4), "4 0 5 " + NO_PLACE);
        web = Webs.full();
        due("ints of 30", web.keep(7, 3, Webs.THERE), 0);
        due("the last places", Told.row(web, 7, 31).endsWith(" 1 " + NO_PLACE) ? 1 : 0, 1);
        web = Webs.none();
        int all = web.term(8, web.two(5, 0, 0, 1), web.term(6, web.two(5, 0, 0, 1), 0));
        due("ints of no states", web.keep(0, 3, all), 0);
        due("no place", Told.row(web, 0, 1), NO_PLACE);
        due("but held", web.weight(0), -12);
        web.state(-1, -1);
        web.keep(0, 3, all);
        due("all 256 rows", Told.row(web, 0, 1), "256");
        check.refused("ints of THERE 2", Webs::busy, made -> made.keep(0, 3, Webs.THIRD), -4);
        check.refused("ints of 785", Webs::busy, made -> made.keep(0, 3, Webs.DEAR), -5);
        int dear = Webs.costing(web, 600, 0);
        due("ints of 600", web.keep(0, 3, dear), 0);
        due("ints of 601", web.keep(0, 3, web.term(6, dear, 0)), -5);
        due("ints of 601, VARIABLE 2 FREE", web.keep(0, 3, Webs.costing(web, 601, 2)), -4);
        shapesOnShelves();
    }

    private static void shapesOnShelves() {
        check.says(28, "4 a ROW of bytes: SHAPES of PARTS in STATE k (-1: not there): 0. -1.");
        PastWeb web = Webs.parts(0);
        web.keep(0, 4, 0);
        due("none is there", Told.row(web, 0, 16).replace("-1", "").trim(), "");
        web.put(0, 0, 0);
        web.put(15, 0, 99);
        due("the row stays", Told.row(web, 0, 1), "-1");
        due("bytes", web.keep(0, 4, 0), 0);
        due("the first places", Told.row(web, 0, 2), "0 -1");
        due("the last places", Check.element(web, 0, 15) + " " + Check.element(web, 0, 16), "99 " + NO_PLACE);
        web.gone(15);
        due("the row stays", Check.element(web, 0, 15), "99");
        due("of one that went", web.keep(0, 4, 0) + " " + Check.element(web, 0, 15), "0 -1");
        due("of 30", Webs.full().keep(0, 4, 29), 0);
        due("of 30, state 30", Webs.full().keep(0, 4, 30), -1);
        for (int k : new int[] {-1, 60, MIN, MAX}) {
            for (int what : new int[] {1, 3, 4}) {
                check.refused(at("keep", 0, what, k), Webs::busy, made -> made.keep(0, what, k), -1);
            }
        }
        check.refused("keep of no term", Webs::busy, made -> made.keep(0, 1, Webs.BUSY_TERMS), -1);
        check.refused("keep of no term's ints", Webs::busy, made -> made.keep(0, 3, Webs.BUSY_TERMS), -1);
        check.refused("keep of no state", Webs::busy, made -> made.keep(0, 4, 3), -1);
        for (int what : new int[] {-1, 2, 5, MIN, MAX}) {
            check.refused("keep of what " + what, Webs::busy, made -> made.keep(0, what, 0), -1);
        }
        for (int d : new int[] {-1, 8, MIN, MAX}) {
            for (int what : new int[] {0, 1, 3, 4}) {
                check.refused(at("keep", d, what), Webs::busy, made -> made.keep(d, what, 0), -1);
            }
            due("no such shelf, VARIABLE 2 FREE", Webs.busy().keep(d, 3, Webs.THIRD), -1);
            due("no such shelf, too dear", Webs.busy().keep(d, 3, Webs.DEAR), -1);
        }
    }

    private static void promise29() {
        check.says(29, "SHELF d gets a ROW of n ints, or bytes, 0 (what 3, 4; n up to 60): 0.");
        for (int d : new int[] {0, 7}) {
            for (int what : new int[] {3, 4}) {
                for (int n : new int[] {0, 1, 59, 60}) {
                    PastWeb web = Webs.busy();
                    due(at("make", d, what, n), web.make(d, what, n), 0);
                    due("is held", web.weight(d), -12);
                    due("its end", Check.element(web, d, n), NO_PLACE);
                    due("its last place", n == 0 ? "0" : Check.element(web, d, n - 1), "0");
                    due("its first place", n == 0 ? "0" : Check.element(web, d, 0), "0");
                    due("of ints", web.copy(1, 0, d, 0, 0), what == 3 ? 0 : -12);
                    due("of bytes", web.copy(2, 0, d, 0, 0), what == 4 ? 0 : -12);
                }
            }
        }

        check.says(29, "-1 (n above 60, too); -14: n is below 0.");
        for (int what : new int[] {3, 4}) {
            for (int n : new int[] {61, 62, 256, MAX}) {
                check.refused(at("make", 0, what, n), Webs::busy, made -> made.make(0, what, n), -1);
            }
            for (int n : new int[] {-1, -2, -61, MIN}) {
                check.refused(at("make", 0, what, n), Webs::busy, made -> made.make(0, what, n), -14);
            }
        }
        for (int n : new int[] {-1, 0, 60, 61, MIN, MAX}) {
            for (int what : new int[] {-1, 0, 1, 2, 5, MIN, MAX}) {
                check.refused(at("make", 0, what, n), Webs::busy, made -> made.make(0, what, n), -1);
            }
            for (int d : new int[] {-1, 8, MIN, MAX}) {
                check.refused(at("make", d, 3, n), Webs::busy, made -> made.make(d, 3, n), -1);
            }
        }
    }

    private static void promise30() {
        check.says(30, "Element i, from 0, of the ROW on SHELF d.");
        PastWeb web = Webs.busy();
        due("ints", Told.row(web, 1, 4), "4 0 5 " + NO_PLACE);
        due("bytes", Told.row(web, 2, 4), "10 11 12 -1");
        due("the last byte", Check.element(web, 2, 15), "99");

        check.says(30, "IllegalArgumentException: no such SHELF; IllegalStateException: nothing is held, it is no ROW, or has no "
                + "such place.");
        for (int d : new int[] {-1, 8, 9, MIN, MAX}) {
            for (int i : new int[] {-1, 0, 60, MIN, MAX}) {
                due(at("element", d, i), Check.element(web, d, i), NO_SHELF);
            }
        }
        for (int i : new int[] {-1, 0, 1, 60, MIN, MAX}) {
            due(at("element of nothing", 7, i), Check.element(web, 7, i), NO_PLACE);
            due(at("element of a term", 0, i), Check.element(web, 0, i), NO_PLACE);
        }
        int[] sizes = {0, 3, 16, 4, 60};
        for (int d = 1; d < 5; d++) {
            for (int i : new int[] {-1, sizes[d], sizes[d] + 1, MIN, MAX}) {
                due(at("element", d, i), Check.element(web, d, i), NO_PLACE);
            }
            due("the last place", Check.element(web, d, sizes[d] - 1).equals(NO_PLACE) ? 1 : 0, 0);
        }
        due("nothing changed", Told.all(web), Told.all(Webs.busy()));
        web.make(7, 3, 0);
        due("of a row of no places", Check.element(web, 7, 0), NO_PLACE);
    }

    private static void promise31() {
        check.says(31, "n elements of the ROW on SHELF d, from place i, come to the ROW on SHELF e, from place j (as they all were "
                + "before): n.");
        PastWeb web = Webs.busy();
        due("of all", web.copy(1, 0, 3, 1, 3), 3);
        due("where they came", Told.row(web, 3, 5), "0 4 0 5 " + NO_PLACE);
        due("where they are of", Told.row(web, 1, 3), "4 0 5");
        due("one, from the last place", web.copy(1, 2, 3, 0, 1), 1);
        due("where it came", Told.row(web, 3, 4), "5 4 0 5");
        due("bytes, all", web.copy(2, 0, 4, 0, 16), 16);
        due("bytes to the end", web.copy(2, 15, 4, 59, 1), 1);
        due("where it came", Check.element(web, 4, 59), "99");
        due("on by one", web.copy(2, 0, 2, 1, 15), 15);
        due("as they all were", Told.row(web, 2, 16), "10 10 11 12 -1 -1 -1 -1 -1 -1 -1 -1 -1 -1 -1 -1");
        due("back by one", web.copy(3, 1, 3, 0, 3), 3);
        due("as they all were", Told.row(web, 3, 4), "4 0 5 5");
        due("onto itself", web.copy(3, 0, 3, 0, 4), 4);
        due("the same", Told.row(web, 3, 4), "4 0 5 5");

        check.says(31, "-1; -11: of either; -12: one is no ROW, or they are not of one kind;");
        for (int w : new int[] {-1, 8, MIN, MAX}) {
            for (int n : new int[] {-1, 0, 1, MAX}) {
                check.refused(at("copy of", w, n), Webs::busy, made -> made.copy(w, 0, 1, 0, n), -1);
                check.refused(at("copy to", w, n), Webs::busy, made -> made.copy(1, 0, w, 0, n), -1);
                due(at("copy of nothing to", w, n), Webs.busy().copy(7, 0, w, 0, n), -1);
            }
        }
        int[][] refused = {
            {6, 1, -11}, {1, 6, -11}, {6, 6, -11}, {6, 7, -11}, {0, 6, -11}, {6, 0, -11}, {0, 1, -12}, {1, 0, -12},
            {0, 0, -12}, {0, 2, -12}, {2, 5, -12}, {1, 2, -12}, {2, 1, -12}, {4, 3, -12}
        };
        for (int[] r : refused) {
            for (int n : new int[] {-1, 0, 1, MIN, MAX}) {
                check.refused(at("copy", r[0], r[1], n), Webs::busy, made -> made.copy(r[0], 0, r[1], 0, n), r[2]);
                check.refused(at("copy from -1", r[0], r[1], n), Webs::busy, made -> made.copy(r[0], -1, r[1], MAX, n), r[2]);
            }
        }
        noSuchPlaces();
    }

    private static void noSuchPlaces() {
        check.says(31, "-13: n, i or j is below 0, or beyond either's end (n 0 at the end is not).");
        int[][] refused = {
            {0, 0, -1}, {-1, 0, 1}, {0, -1, 1}, {-1, 0, 0}, {0, -1, 0}, {3, 0, 1}, {4, 0, 0}, {0, 5, 0}, {0, 4, 1}, {0, 0, 4},
            {1, 0, 3}, {2, 0, 2}, {0, 2, 3}, {0, 3, 2}, {MIN, 0, 0}, {0, MIN, 0}, {0, 0, MIN}, {MAX, 0, 0}, {0, MAX, 0},
            {0, 0, MAX}, {1, 0, MAX}, {0, 1, MAX}, {MAX, MAX, MAX}, {MIN, MIN, MIN}, {MAX, 0, 1}, {0, MAX, 1}, {MAX, MAX, 2},
            {MIN, 0, MAX}, {0, MIN, MAX}, {-1, -1, MIN}, {3, 4, -1}
        };
        for (int[] r : refused) {
            check.refused(at("copy", r), Webs::busy, made -> made.copy(1, r[0], 3, r[1], r[2]), -13);
        }
        for (int[] r : new int[][] {{16, 0, 1}, {17, 0, 0}, {0, 61, 0}, {0, 60, 1}, {0, 45, 16}, {1, 0, 16}, {0, 0, 17}}) {
            check.refused(at("copy of bytes", r), Webs::busy, made -> made.copy(2, r[0], 4, r[1], r[2]), -13);
        }
        PastWeb web = Webs.busy();
        due("none at both ends", web.copy(1, 3, 3, 4, 0), 0);
        due("none at the end of bytes", web.copy(2, 16, 4, 60, 0), 0);
        due("none at the starts", web.copy(1, 0, 3, 0, 0), 0);
        due("nothing changed", Told.all(web), Told.all(Webs.busy()));
        due("up to both ends", web.copy(1, 0, 3, 1, 3), 3);
        web.make(6, 3, 0);
        due("none of a row of no places", web.copy(6, 0, 6, 0, 0), 0);
        due("none to a row of no places", web.copy(1, 3, 6, 0, 0), 0);
        due("one of a row of no places", web.copy(6, 0, 1, 0, 1), -13);
        due("place 1 of a row of no places", web.copy(6, 1, 1, 0, 0), -13);
    }

    private static void promise32() {
        check.says(32, "its COST and 10 times how deep it is; of those of TERMS 100 more; of KINDS 9 to 13 1000 more than that; of "
                + "SOME twice what it would have as one of TERMS. -1, -11, -12.");
        PastWeb web = Webs.none();
        for (int kind = 0; kind < 3; kind++) {
            web.of(kind, 0, 0);
            web.two(kind + 3, 0, 0, 0);
        }
        for (int term = 0; term < 6; term++) {
            web.keep(term, 1, term);
            due("of no terms", web.weight(term), 11);
        }
        int deep = web.term(7, 0, web.term(6, 0, 0));
        int[] due = {5 + 40 + 100, 9 + 40 + 100, 9 + 40 + 100, 1145, 1145, 1145, 1145, 1149, 2 * (65 + 40 + 100)};
        for (int kind = 6; kind < 15; kind++) {
            web.keep(7, 1, kind == 14 ? web.term(14, 0, deep) : web.term(kind, deep, deep));
            due("of kind " + kind, web.weight(7), due[kind - 6]);
        }
        web.keep(7, 1, Webs.costing(web, 100000, 0));
        due("of the dearest", web.weight(7), 100000 + 10 * web.told(web.count(1) - 1, 3) + 100);
        refusedOfTerms("weight", made -> made.weight(0), made -> made.weight(7));
        for (int d : new int[] {-1, 8, MIN, MAX}) {
            check.refused("weight(" + d + ")", Webs::busy, made -> made.weight(d), -1);
        }
        for (int d = 1; d < 8; d++) {
            int asked = d;
            if (d != 5) {
                check.refused("weight(" + d + ")", Webs::busy, made -> made.weight(asked), d < 5 ? -12 : -11);
            }
        }
    }

    /** Of nothing, of each kind of row, and of the emptiest one. */
    private static void refusedOfTerms(String name, Check.Call first, Check.Call last) {
        PastWeb web = Webs.none();
        due(name + " at first", first.on(web), -11);
        due(name + " at first", last.on(web), -11);
        web.make(0, 3, 0);
        web.make(7, 4, 0);
        due(name + " of no ints", first.on(web), -12);
        due(name + " of no bytes", last.on(web), -12);
        web.keep(0, 0, 0);
        due(name + " of nothing again", first.on(web), -11);
    }

    private static void promise33() {
        check.says(33, "The FAILURE of the TERM on SHELF d is thrown, and caught: its KIND. -1, -11, -12; -15: those of no TERMS have "
                + "none.");
        PastWeb web = Webs.none();
        for (int kind = 0; kind < 3; kind++) {
            web.keep(kind, 1, web.of(kind, 0, 0));
            web.keep(kind + 3, 1, web.two(kind + 3, 0, 0, 0));
        }
        for (int d = 0; d < 6; d++) {
            due("of no terms, kind " + d, web.toss(d), -15);
        }
        for (int kind = 6; kind < 15; kind++) {
            web.keep(6, 1, web.term(kind, 0, 0));
            due("of kind " + kind, web.toss(6), kind);
            due("of kind " + kind + " again", web.toss(6), kind);
            due("it stays", web.weight(6) > 0 ? 1 : 0, 1);
        }
        refusedOfTerms("toss", made -> made.toss(0), made -> made.toss(7));
        for (int d : new int[] {-1, 8, MIN, MAX}) {
            check.refused("toss(" + d + ")", Webs::busy, made -> made.toss(d), -1);
        }
        int[] due = {-15, -12, -12, -12, -12, -15, -11, -11};
        for (int d = 0; d < 8; d++) {
            int asked = d;
            check.refused("toss(" + d + ")", Webs::busy, made -> made.toss(asked), due[d]);
        }
    }

    public static void main(String[] args) {
        numbersOfKept();
        kindsOfNews();
        whatShelvesHold();
        refusals();
        promise23();
        promise24();
        promise25();
        promise26();
        promise27();
        promise28();
        promise29();
        promise30();
        promise31();
        promise32();
        promise33();
        check.saidPromises(23, 33);
        check.end("EdgesOfKeptTest");
    }
}

/** For each promise: ordinary inputs, the edges that the document names, and wrong inputs. */
public final class PromisesTest {
    private static final int MIN = Integer.MIN_VALUE;
    private static final int MAX = Integer.MAX_VALUE;
    private static final Check check = new Check();

    private static void due(String call, long got, long want) {
        check.due(call, got, want);
    }

    private static void due(String call, String got, String want) {
        check.due(call, got, want);
    }

    private static int sure(PastWeb web, int term) {
        return web.span(term, 0, 0, 0, false);
    }

    private static int may(PastWeb web, int term) {
        return web.span(term, 0, 0, 0, true);
    }

    private static void promise1() {
        PastWeb web = new PastWeb();
        due("count(0)", web.count(0), 0);
        due("count(1)", web.count(1), 0);
        due("count(2)", web.count(2), 0);
        due("look(0, 0)", web.look(0, 0), -1);
        due("told(0, 0)", web.told(0, 0), -1);
        due("news(0, 0)", web.news(0, 0), -1);
        due("weight(7)", web.weight(7), -11);
        PastWeb other = new PastWeb();
        other.state(-1, -1);
        due("count(0) beside another object", web.count(0), 0);
    }

    private static void promise2() {
        PastWeb web = new PastWeb();
        due("state(-1, 0)", web.state(-1, 0), -1);
        due("state(0, -1) of none", web.state(0, -1), -1);
        due("state(0, 0) of none", web.state(0, 0), -1);
        due("state(-2, -1)", web.state(-2, -1), -1);
        due("state(-1, -1)", web.state(-1, -1), 0);
        due("state(-1, 0) of one", web.state(-1, 0), -1);
        due("state(0, -2)", web.state(0, -2), -1);
        due("state(0, 0) alike", web.state(0, 0), -1);
        due("state(0, 1) not yet", web.state(0, 1), -1);
        due("state(1, -1) not yet", web.state(1, -1), -1);
        due("state(MIN, -1)", web.state(MIN, -1), -1);
        due("state(MAX, MAX)", web.state(MAX, MAX), -1);
        due("count(0)", web.count(0), 1);
        due("state(0, -1)", web.state(0, -1), 1);
        due("state(-1, -1) again", web.state(-1, -1), 2);
        due("state(1, 2)", web.state(1, 2), 3);
        due("state(2, 1)", web.state(2, 1), 4);
        for (int i = 5; i < 30; i++) {
            due("state(i - 1, 0)", web.state(i - 1, 0), i);
        }
        due("state(-1, -1) of 30", web.state(-1, -1), -2);
        due("state(29, 28) of 30", web.state(29, 28), -2);
        due("state(29, 29) of 30", web.state(29, 29), -1);
        due("state(30, -1) of 30", web.state(30, -1), -1);
        due("count(0) of 30", web.count(0), 30);
        stateTakesOver();
    }

    private static void stateTakesOver() {
        PastWeb web = new PastWeb();
        web.state(-1, -1);
        web.put(0, 1, 10);
        web.put(1, 1, 11);
        web.link(0, 0, 1, true);
        web.read(false);
        web.state(-1, -1);
        due("parts of a state of none", web.look(1, 4), 0);
        web.put(1, 2, 21);
        web.put(2, 2, 22);
        web.link(0, 1, 2, true);
        web.link(2, 2, 1, true);
        due("state(1, 0)", web.state(1, 0), 2);
        due("parts of both", web.look(2, 4), 7);
        due("links of both", web.look(2, 5), 3);
        due("sort of the first", web.part(2, 1, 0), 2);
        due("shape of the first", web.part(2, 1, 1), 21);
        due("sort of the second", web.part(2, 0, 0), 1);
        due("shape of the second", web.part(2, 0, 1), 10);
        due("read at first", web.look(2, 3), 1);
        web.put(1, 3, 99);
        due("the one ahead stays", web.part(1, 1, 1), 21);
        due("state(0, 1)", web.state(0, 1), 3);
        due("sort of the first", web.part(3, 1, 0), 1);
        due("links of the second", web.part(3, 2, 4), 2);
    }

    private static void promise3() {
        PastWeb web = new PastWeb();
        due("put without states", web.put(0, 0, 0), -3);
        due("put(16) without states", web.put(16, 0, 0), -1);
        web.state(-1, -1);
        due("put(-1)", web.put(-1, 0, 0), -1);
        due("put(16)", web.put(16, 0, 0), -1);
        due("put, sort -1", web.put(0, -1, 0), -1);
        due("put, sort 4", web.put(0, 4, 0), -1);
        due("put, shape -1", web.put(0, 0, -1), -1);
        due("put, shape 100", web.put(0, 0, 100), -1);
        due("put, shape MIN", web.put(0, 0, MIN), -1);
        due("none came", web.look(0, 4), 0);
        due("put(0)", web.put(0, 0, 0), 1);
        due("put(15)", web.put(15, 3, 99), 1);
        due("sort", web.part(0, 15, 0), 3);
        due("shape", web.part(0, 15, 1), 99);
        web.link(1, 15, 0, true);
        due("put again, others", web.put(15, 2, 98), 0);
        due("sort", web.part(0, 15, 0), 2);
        due("shape", web.part(0, 15, 1), 98);
        due("links stay", web.part(0, 15, 3), 1);
        due("put again, the same", web.put(15, 2, 98), 0);
        due("refused", web.put(15, 4, 1), -1);
        due("shape stays", web.part(0, 15, 1), 98);
        web.state(0, -1);
        due("put in the latest", web.put(1, 1, 1), 1);
        due("not in the one ahead", web.look(0, 4), 0x8001);
    }

    private static void promise4() {
        PastWeb web = new PastWeb();
        due("gone without states", web.gone(0), -3);
        due("gone(16) without states", web.gone(16), -1);
        web.state(-1, -1);
        due("gone(-1)", web.gone(-1), -1);
        due("gone(MAX)", web.gone(MAX), -1);
        due("gone, not there", web.gone(3), -4);
        web.put(3, 1, 1);
        web.put(4, 1, 1);
        web.put(5, 1, 1);
        due("gone without links", web.gone(5), 0);
        due("gone again", web.gone(5), -4);
        web.put(5, 1, 1);
        web.link(0, 3, 3, true);
        web.link(0, 3, 4, true);
        web.link(1, 4, 3, true);
        web.link(2, 3, 5, true);
        web.link(2, 4, 5, true);
        due("gone: to itself once, from and to", web.gone(3), 4);
        due("links left", web.look(0, 5), 1);
        due("parts left", web.look(0, 4), 0x30);
        web.put(3, 2, 2);
        due("comes back without links", web.look(0, 5), 1);
        due("none lead to it", web.part(0, 4, 3), 0);
        web.state(0, -1);
        web.gone(4);
        due("stays in the one ahead", web.look(0, 4), 0x38);
        due("links stay in the one ahead", web.look(0, 5), 1);
    }

    private static void promise5() {
        PastWeb web = new PastWeb();
        due("link without states", web.link(0, 0, 1, true), -3);
        due("link(3) without states", web.link(3, 0, 1, true), -1);
        web.state(-1, -1);
        web.put(0, 0, 0);
        due("link, to not there", web.link(0, 0, 1, true), -4);
        due("link, from not there", web.link(0, 1, 0, true), -4);
        due("link away, not there", web.link(0, 1, 0, false), -4);
        web.put(15, 0, 0);
        due("link(-1)", web.link(-1, 0, 15, true), -1);
        due("link(3)", web.link(3, 0, 15, true), -1);
        due("link, from -1", web.link(0, -1, 15, true), -1);
        due("link, from 16", web.link(0, 16, 15, true), -1);
        due("link, to -1", web.link(0, 0, -1, true), -1);
        due("link, to 16", web.link(0, 0, 16, true), -1);
        due("no link", web.look(0, 5), 0);
        due("no link to take away", web.link(0, 0, 15, false), 0);
        for (int kind = 0; kind < 3; kind++) {
            due("link", web.link(kind, 0, 15, true), 1);
            due("link again", web.link(kind, 0, 15, true), 0);
        }
        due("link to itself", web.link(1, 15, 15, true), 1);
        due("links", web.look(0, 5), 4);
        due("link away", web.link(1, 0, 15, false), 1);
        due("link away again", web.link(1, 0, 15, false), 0);
        due("of the other kinds they stay", web.part(0, 0, 2) + web.part(0, 0, 4), 0x10000);
        web.state(0, -1);
        web.link(0, 0, 15, false);
        due("stays in the one ahead", web.part(0, 0, 2), 0x8000);
        due("not in the latest", web.part(1, 0, 2), 0);
    }

    private static void promise6() {
        PastWeb web = new PastWeb();
        due("read without states", web.read(true), -3);
        due("read away without states", web.read(false), -3);
        web.state(-1, -1);
        due("read, it is", web.read(true), 0);
        due("read away", web.read(false), 1);
        due("read away again", web.read(false), 0);
        due("look", web.look(0, 3), 0);
        web.state(0, -1);
        due("read at first", web.look(1, 3), 1);
        due("read, it is", web.read(true), 0);
        due("the one ahead", web.look(0, 3), 0);
        web.undo();
        due("read again", web.read(true), 1);
        due("look", web.look(0, 3), 1);
    }

    private static void promise7() {
        PastWeb web = new PastWeb();
        due("undo without states", web.undo(), -3);
        web.state(-1, -1);
        web.put(0, 1, 1);
        web.put(1, 1, 1);
        web.link(0, 0, 1, true);
        web.state(0, -1);
        int there = web.of(0, 10, 0);
        int leads = web.two(4, 0, 0, 1);
        due("span", sure(web, there), 3);
        web.keepTerm(there);
        web.keep(0, 1, there);
        web.keep(1, 4, 0);
        due("undo with a kept one", web.undo(), -4);
        due("states", web.count(0), 2);
        web.forget();
        due("undo, a shelf does not count", web.undo(), 1);
        due("states", web.count(0), 1);
        due("span", sure(web, there), 1);
        due("rows", web.rows(leads, false), 1);
        due("undo", web.undo(), 0);
        due("undo of none", web.undo(), -3);
        due("span of none", may(web, there), 0);
        due("rows of none", web.rows(leads, true), 0);
        due("terms stay", web.count(1), 2);
        due("shelf stays", Check.element(web, 1, 0), "1");
        due("state(-1, -1)", web.state(-1, -1), 0);
        due("nothing is left", web.look(0, 4) + web.look(0, 5), 0);
        web.state(0, -1);
        web.undo();
        web.state(-1, -1);
        due("none is before it", web.look(1, 2), 0);
        due("none is ahead of it", web.look(1, 0), -2);
        due("nor for terms", sure(web, web.term(12, web.two(5, 0, 0, 0), 0)), 0);
        web.undo();
        due("span of nothing", sure(web, there), 0);
        web.put(0, 0, 0);
        web.put(1, 0, 0);
        due("no old links", web.rows(leads, false), 0);
        web.keepTerm(there);
        PastWeb none = new PastWeb();
        none.of(0, 0, 0);
        none.keepTerm(0);
        due("undo without states, with a kept one", none.undo(), -3);
    }

    private static void promise8() {
        PastWeb web = Webs.net();
        int[][] due = {{-2, -2, 0}, {0, -2, 1}, {1, -2, 3}, {1, -2, 3}, {3, 2, 15}, {-2, -2, 0}, {4, 5, 63}};
        for (int state = 0; state < 7; state++) {
            for (int what = 0; what < 3; what++) {
                due("look(" + state + ", " + what + ")", web.look(state, what), due[state][what]);
            }
        }
        web.state(3, 0);
        due("look(7, 0)", web.look(7, 0), 3);
        due("look(7, 1)", web.look(7, 1), 0);
        due("look(7, 2)", web.look(7, 2), 11);
        web.undo();
        due("look(-1, 0)", web.look(-1, 0), -1);
        due("look(7, 0)", web.look(7, 0), -1);
        due("look(0, -1)", web.look(0, -1), -1);
        due("look(0, 7)", web.look(0, 7), -1);
        due("look(MIN, MAX)", web.look(MIN, MAX), -1);
        web = new PastWeb();
        web.state(-1, -1);
        web.put(1, 0, 0);
        web.put(2, 0, 0);
        web.put(3, 0, 0);
        web.put(4, 0, 0);
        web.put(5, 0, 0);
        web.link(2, 1, 2, true);
        due("changed: all that are there", web.look(0, 6), 0x3e);
        web.state(0, -1);
        due("changed: none", web.look(1, 6), 0);
        web.put(1, 0, 0);
        due("changed: put as it was", web.look(1, 6), 0);
        web.put(1, 1, 0);
        due("changed: sort", web.look(1, 6), 2);
        web.put(3, 0, 1);
        due("changed: shape", web.look(1, 6), 10);
        web.link(2, 4, 4, true);
        due("changed: links that lead from it", web.look(1, 6), 0x1a);
        web.gone(5);
        due("changed: gone", web.look(1, 6), 0x3a);
        web.put(6, 0, 0);
        due("changed: new", web.look(1, 6), 0x7a);
        due("parts", web.look(1, 4), 0x5e);
        due("links", web.look(1, 5), 2);
        changedBesides();
    }

    private static void changedBesides() {
        PastWeb web = Webs.parts(3);
        web.link(1, 0, 2, true);
        web.state(0, -1);
        web.gone(2);
        due("changed: a link went with the other part", web.look(1, 6), 5);
        web.read(false);
        due("not read: none changed", web.look(1, 6), 0);
        web.state(1, 0);
        due("changed by the first ahead, read or not", web.look(2, 6), 5);
        web.state(0, 1);
        due("changed by the first ahead", web.look(3, 6), 0);
        web = Webs.parts(2);
        web.link(0, 0, 1, true);
        web.state(0, -1);
        web.link(0, 0, 1, false);
        web.link(1, 0, 1, true);
        due("changed: links of another kind", web.look(1, 6), 1);
    }

    private static void promise9() {
        PastWeb web = new PastWeb();
        due("part(0, 0, 0) without states", web.part(0, 0, 0), -1);
        web.state(-1, -1);
        web.put(2, 3, 99);
        web.put(7, 1, 50);
        web.link(0, 2, 7, true);
        web.link(1, 2, 2, true);
        web.link(1, 2, 7, true);
        web.link(2, 7, 2, true);
        int[] due = {3, 99, 0x80, 0x84, 0, -2};
        for (int what = 0; what < 6; what++) {
            due("part(0, 2, " + what + ")", web.part(0, 2, what), due[what]);
            due("part(0, 3, " + what + ")", web.part(0, 3, what), what == 5 ? -2 : -4);
        }
        due("part(0, 7, 4)", web.part(0, 7, 4), 4);
        due("part(1, 2, 0)", web.part(1, 2, 0), -1);
        due("part(-1, 2, 0)", web.part(-1, 2, 0), -1);
        due("part(0, -1, 0)", web.part(0, -1, 0), -1);
        due("part(0, 16, 0)", web.part(0, 16, 0), -1);
        due("part(0, 2, -1)", web.part(0, 2, -1), -1);
        due("part(0, 2, 6)", web.part(0, 2, 6), -1);
        due("part(0, 3, 6)", web.part(0, 3, 6), -1);
        due("part(0, 3, MAX)", web.part(0, 3, MAX), -1);
        wentOver();
    }

    private static void wentOver() {
        PastWeb web = new PastWeb();
        web.state(-1, -1);
        web.put(5, 1, 9);
        web.put(2, 1, 9);
        web.put(8, 1, 9);
        web.put(9, 1, 8);
        web.put(10, 2, 9);
        web.put(11, 3, 3);
        web.put(12, 1, 9);
        web.state(0, -1);
        for (int part : new int[] {2, 5, 8, 9, 10}) {
            web.gone(part);
        }
        web.put(0, 1, 9);
        web.put(1, 2, 9);
        web.put(14, 1, 9);
        web.put(12, 2, 2);
        due("2 to the least one", web.part(1, 2, 5), 0);
        due("5 to the next one", web.part(1, 5, 5), 14);
        due("8 to none: both are taken", web.part(1, 8, 5), -2);
        due("9 to none: no such shape", web.part(1, 9, 5), -2);
        due("10 to one of its sort", web.part(1, 10, 5), 1);
        due("11 did not go", web.part(1, 11, 5), -2);
        due("0 is new", web.part(1, 0, 5), -2);
        due("not in the first state", web.part(0, 2, 5), -2);
        web.put(13, 1, 9);
        due("5 to a lesser one now", web.part(1, 5, 5), 13);
        due("8 to the one left", web.part(1, 8, 5), 14);
        web.read(false);
        due("read or not", web.part(1, 8, 5), 14);
        web.state(1, 0);
        due("they came back of the second", web.part(2, 2, 5), -2);
        web.state(0, 1);
        web.gone(2);
        due("the first one ahead is asked: 2 to 0", web.part(3, 2, 5), 0);
        web = new PastWeb();
        web.state(-1, -1);
        web.put(1, 1, 1);
        web.put(2, 2, 2);
        web.put(3, 3, 3);
        web.state(0, -1);
        web.gone(1);
        web.gone(2);
        web.put(0, 2, 2);
        web.put(7, 3, 3);
        web.put(8, 0, 0);
        due("1 to none", web.part(1, 1, 5), -2);
        due("2 to 0, which 1 did not take", web.part(1, 2, 5), 0);
        due("3 stays, though another has its looks", web.part(1, 3, 5), -2);
        due("7 came, 8 did, 9 never was", web.part(1, 7, 5) + web.part(1, 8, 5) + web.part(1, 9, 5), -6);
        web.state(1, -1);
        web.gone(0);
        web.put(1, 2, 2);
        due("0 to 1", web.part(2, 0, 5), 1);
    }

    private static void promise10() {
        PastWeb web = Webs.net();
        due("roads(0, 6)", Check.roads(web, 0, 6), "2");
        due("roads(1, 4)", Check.roads(web, 1, 4), "2");
        due("roads(0, 2)", Check.roads(web, 0, 2), "1");
        due("roads(5, 6)", Check.roads(web, 5, 6), "1");
        due("roads(5, 4)", Check.roads(web, 5, 4), "0");
        due("roads(2, 3)", Check.roads(web, 2, 3), "0");
        due("roads(6, 0) back", Check.roads(web, 6, 0), "0");
        due("roads(6, 6)", Check.roads(web, 6, 6), "1");
        due("roads(0, 0)", Check.roads(web, 0, 0), "1");
        for (int wrong : new int[] {-1, 7, MIN, MAX}) {
            due("roads(wrong, 0)", Check.roads(web, wrong, 0), "throws.IllegalArgumentException");
            due("roads(0, wrong)", Check.roads(web, 0, wrong), "throws.IllegalArgumentException");
        }
        due("roads(0, 0) of none", Check.roads(new PastWeb(), 0, 0), "throws.IllegalArgumentException");
        web = new PastWeb();
        web.state(-1, -1);
        web.state(0, -1);
        for (int i = 2; i < 30; i++) {
            web.state(i - 1, i - 2);
        }
        due("roads(0, 29) of pairs", Check.roads(web, 0, 29), "832040");
        due("roads(1, 29) of pairs", Check.roads(web, 1, 29), "514229");
        due("roads(2, 29) of pairs", Check.roads(web, 2, 29), "317811");
    }

    private static void promise11() {
        PastWeb web = Webs.net();
        due("meet(2, 3)", web.meet(2, 3), 2);
        due("meet(4, 2)", web.meet(4, 2), 4);
        due("meet(4, 4)", web.meet(4, 4), 16);
        due("meet(5, 4)", web.meet(5, 4), 0);
        due("meet(5, 6)", web.meet(5, 6), 32);
        due("meet(0, 6)", web.meet(0, 6), 1);
        due("meet(-1, 0)", web.meet(-1, 0), -1);
        due("meet(0, 7)", web.meet(0, 7), -1);
        due("meet(7, MIN)", web.meet(7, MIN), -1);
        web = new PastWeb();
        web.state(-1, -1);
        web.state(0, -1);
        web.state(0, -1);
        web.state(1, 2);
        web.state(2, 1);
        due("meet(3, 4): two of them", web.meet(3, 4), 6);
        due("meet(4, 3): two of them", web.meet(4, 3), 6);
    }

    private static void promise12() {
        PastWeb web = Webs.net();
        due("between(0, 6)", web.between(0, 6), 0x5f);
        due("between(1, 4)", web.between(1, 4), 0x1e);
        due("between(1, 3)", web.between(1, 3), 10);
        due("between(5, 6)", web.between(5, 6), 0x60);
        due("between(5, 4)", web.between(5, 4), 0);
        due("between(4, 1) back", web.between(4, 1), 0);
        due("between(2, 3)", web.between(2, 3), 0);
        due("between(2, 2)", web.between(2, 2), 4);
        due("between(-1, 0)", web.between(-1, 0), -1);
        due("between(0, 7)", web.between(0, 7), -1);
        due("between(MAX, 0)", web.between(MAX, 0), -1);
        due("between(0, 0) of none", new PastWeb().between(0, 0), -1);
    }

    private static void promise13() {
        PastWeb web = new PastWeb();
        due("together of no states", web.together(0, 1, 0), 0);
        web.state(-1, -1);
        web.put(0, 0, 0);
        web.put(1, 0, 0);
        web.state(0, -1);
        web.put(0, 1, 0);
        web.state(1, -1);
        web.put(0, 2, 0);
        web.state(2, -1);
        web.put(1, 2, 0);
        web.state(3, -1);
        web.put(0, 0, 0);
        web.put(1, 0, 0);
        web.state(4, -1);
        web.put(0, 1, 1);
        web.put(1, 1, 1);
        web.read(false);
        due("together(0, 1, 0)", web.together(0, 1, 0), 2);
        due("together(0, 1, 1)", web.together(0, 1, 1), 2);
        due("together(0, 1, 2)", web.together(0, 1, 2), 1);
        due("together(1, 0, 1)", web.together(1, 0, 1), 1);
        due("together(1, 0, 2)", web.together(1, 0, 2), 2);
        due("together(0, 0, 0)", web.together(0, 0, 0), 4);
        due("together(0, 0, 1)", web.together(0, 0, 1), 0);
        due("together(0, 0, 2)", web.together(0, 0, 2), 0);
        due("together(0, 15, 1)", web.together(0, 15, 1), 4);
        due("together(-1, 0, 0)", web.together(-1, 0, 0), -1);
        due("together(0, 16, 0)", web.together(0, 16, 0), -1);
        due("together(0, 1, -1)", web.together(0, 1, -1), -1);
        due("together(0, 1, 3)", web.together(0, 1, 3), -1);
    }

    private static void promise14() {
        PastWeb web = new PastWeb();
        int[][] wrong = {
            {-1, 0, 0}, {3, 0, 0}, {6, 0, 0}, {0, -1, 0}, {0, 3, 0}, {0, 9, 0}, {0, 26, 0}, {0, MAX, 0},
            {1, 0, -1}, {1, 0, 4}, {2, 0, -1}, {2, 0, 100}, {1, 3, 0}, {2, 9, 0}, {MIN, 0, 0}
        };
        for (int[] of : wrong) {
            due("of, wrong", web.of(of[0], of[1], of[2]), -1);
        }
        due("of(0, 0, MIN)", web.of(0, 0, MIN), 0);
        due("of(0, 2, MAX)", web.of(0, 2, MAX), 1);
        due("of(1, 1, 0)", web.of(1, 1, 0), 2);
        due("of(1, 10, 3)", web.of(1, 10, 3), 3);
        due("of(2, 25, 99)", web.of(2, 25, 99), 4);
        due("of(2, 0, 0)", web.of(2, 0, 0), 5);
        for (int i = 6; i < 60; i++) {
            due("of(0, 0, 0)", web.of(0, 0, 0), i);
        }
        due("of of 60", web.of(0, 0, 0), -2);
        due("of of 60, wrong", web.of(0, 3, 0), -1);
        due("terms", web.count(1), 60);
        ofHolds();
    }

    private static void ofHolds() {
        PastWeb web = new PastWeb();
        web.state(-1, -1);
        web.put(0, 2, 33);
        web.state(0, -1);
        web.put(0, 3, 33);
        web.put(15, 2, 34);
        web.state(1, -1);
        web.gone(0);
        int there = web.of(0, 0, 0);
        int sort = web.of(1, 0, 2);
        int shape = web.of(2, 0, 33);
        due("THERE 0", sure(web, there), 3);
        due("THERE 0 of 15", web.span(there, 15, 0, 0, false), 6);
        due("SORT 0 2", sure(web, sort), 1);
        due("SORT 0 2 of 15", web.span(sort, 15, 0, 0, false), 6);
        due("SHAPE 0 33", sure(web, shape), 3);
        due("SHAPE 0 33 of 15", web.span(shape, 15, 0, 0, false), 0);
        due("SORT 25 2", sure(web, web.of(1, 25, 2)), 6);
        due("THERE 10 for any parts", web.span(web.of(0, 10, 0), 9, 8, 7, false), 3);
        due("SHAPE of one that is gone", sure(web, web.of(2, 10, 33)), 3);
        due("SORT 0 0 of one that never was", web.span(web.of(1, 0, 0), 7, 0, 0, true), 0);
        due("SHAPE 0 0 of one that never was", web.span(web.of(2, 0, 0), 7, 0, 0, true), 0);
        web.read(false);
        due("THERE, not read: not sure", sure(web, there), 3);
        due("THERE, not read: may", may(web, there), 7);
        due("SORT, not read: may", may(web, sort), 5);
        due("SHAPE, not read: may", web.span(shape, 9, 0, 0, true), 4);
    }

    private static void promise15() {
        PastWeb web = new PastWeb();
        int[][] wrong = {
            {2, 0, 0, 0}, {6, 0, 0, 0}, {-1, 0, 0, 0}, {3, -1, 0, 0}, {3, 3, 0, 0}, {4, -1, 0, 0}, {4, 3, 0, 0},
            {3, 0, 3, 0}, {3, 0, 0, 9}, {4, 0, -1, 0}, {4, 0, 0, 26}, {5, 0, 3, 0}, {5, 0, 0, MIN}, {MAX, 0, 0, 0}
        };
        for (int[] two : wrong) {
            due("two, wrong", web.two(two[0], two[1], two[2], two[3]), -1);
        }
        due("two(3, 2, 0, 25)", web.two(3, 2, 0, 25), 0);
        due("two(4, 0, 10, 2)", web.two(4, 0, 10, 2), 1);
        due("two(5, MIN, 0, 0)", web.two(5, MIN, 0, 0), 2);
        due("two(5, MAX, 12, 13)", web.two(5, MAX, 12, 13), 3);
        while (web.count(1) < 60) {
            web.two(5, 0, 0, 1);
        }
        due("two of 60", web.two(3, 0, 0, 0), -2);
        due("two of 60, wrong", web.two(3, 3, 0, 0), -1);
        twoHolds();
    }

    private static void twoHolds() {
        PastWeb web = Webs.parts(5);
        web.link(1, 0, 1, true);
        web.link(1, 1, 2, true);
        web.link(1, 2, 1, true);
        web.link(0, 2, 3, true);
        web.link(1, 4, 4, true);
        int link = web.two(3, 1, 0, 1);
        int reach = web.two(4, 1, 0, 1);
        int[] linked = {1, 18, 33, 68};
        due("rows of LINK 1", web.rows(link, false), 4);
        for (int i = 0; i < 4; i++) {
            due("row of LINK 1", web.row(link, i, false), linked[i]);
        }
        int[] reached = {1, 2, 17, 18, 33, 34, 68};
        due("rows of REACH 1", web.rows(reach, false), 7);
        for (int i = 0; i < 7; i++) {
            due("row of REACH 1", web.row(reach, i, false), reached[i]);
        }
        due("REACH of another kind", web.span(web.two(4, 0, 0, 1), 2, 3, 0, false), 1);
        due("REACH over kinds", web.span(reach, 0, 3, 0, false), 0);
        due("LINK 10 to 1", web.span(web.two(3, 1, 10, 1), 9, 1, 0, false), 1);
        int same = web.two(5, 7, 0, 1);
        web.state(0, -1);
        web.read(false);
        due("SAME, there or not, read or not", web.span(same, 9, 9, 0, false), 3);
        due("SAME may", web.span(same, 9, 9, 0, true), 3);
        due("not SAME", web.span(same, 9, 8, 0, true), 0);
        due("SAME of a part and a variable", web.span(web.two(5, 0, 19, 0), 9, 0, 0, false), 3);
        due("LINK, not read", web.span(link, 9, 9, 0, true), 2);
        due("REACH, not read: not sure", web.span(reach, 0, 2, 0, false), 1);
        due("REACH, not read: may", web.span(reach, 0, 2, 0, true), 3);
        due("REACH of a longer road", longRoad(), 15);
        web = Webs.parts(3);
        web.link(0, 1, 0, true);
        web.link(0, 0, 2, true);
        due("REACH over 0", web.span(web.two(4, 0, 0, 1), 1, 2, 0, false), 1);
        web.link(0, 0, 0, true);
        due("LINK of 0 to 0", web.span(web.two(3, 0, 0, 1), 0, 0, 0, false), 1);
    }

    /** Part 15 first, over 14 and so on to 0: how many of them 15 reaches. */
    private static int longRoad() {
        PastWeb web = Webs.parts(16);
        for (int part = 15; part > 0; part--) {
            web.link(2, part, part - 1, true);
        }
        return web.rows(web.two(4, 2, 25, 0), false);
    }

    private static void promise16() {
        PastWeb web = new PastWeb();
        due("term without terms", web.term(6, 0, 0), -1);
        web.of(0, 0, 0);
        for (int kind : new int[] {-1, 0, 5, 15, MIN, MAX}) {
            due("term of kind " + kind, web.term(kind, 0, 0), -1);
        }
        for (int kind = 6; kind < 14; kind++) {
            due("term of term -1", web.term(kind, -1, 0), -1);
            due("term of term 1", web.term(kind, 1, 0), -1);
        }
        for (int kind : new int[] {7, 8, 13}) {
            due("term of terms 0, -1", web.term(kind, 0, -1), -1);
            due("term of terms 0, 1", web.term(kind, 0, 1), -1);
        }
        due("SOME of variable 3", web.term(14, 3, 0), -1);
        due("SOME of variable -1", web.term(14, -1, 0), -1);
        due("SOME of part 10", web.term(14, 10, 0), -1);
        due("SOME of no term", web.term(14, 0, 1), -1);
        due("terms", web.count(1), 1);
        int next = 1;
        for (int kind : new int[] {6, 9, 10, 11, 12}) {
            due("term, b any", web.term(kind, 0, MIN), next++);
            due("term, b any", web.term(kind, 0, MAX), next++);
        }
        for (int kind : new int[] {7, 8, 13}) {
            due("term of two", web.term(kind, 0, 1), next++);
        }
        due("SOME 2", web.term(14, 2, 0), next++);
        while (web.count(1) < 60) {
            web.term(6, 0, 0);
        }
        due("term of 60", web.term(6, 0, 0), -2);
        due("SOME of 60", web.term(14, 0, 0), -2);
        due("term of 60, wrong", web.term(6, 60, 0), -1);
        costs();
        plainTerms();
        timedTerms();
        someTerms();
    }

    private static void costs() {
        PastWeb web = new PastWeb();
        web.of(0, 0, 0);
        for (int i = 0; i < 15; i++) {
            due("BOTH of one twice", web.term(7, i, i), i + 1);
            due("COST", web.told(i + 1, 2), (1 << i + 2) - 1);
        }
        due("COST 65535 twice", web.term(7, 15, 15), -5);
        due("COST 65535 and 32767", web.term(8, 15, 14), 16);
        due("COST", web.told(16, 2), 98303);
        due("COST 98303 and 2047", web.term(13, 16, 10), -5);
        due("SOME of 8191", web.term(14, 0, 12), -5);
        due("SOME of 4095", web.term(14, 0, 11), 17);
        due("98303 and 1023", web.term(7, 16, 9), 18);
        due("COST", web.told(18, 2), 99327);
        due("99327 and 511", web.term(7, 18, 8), 19);
        due("99839 and 127", web.term(7, 19, 6), 20);
        due("99967 and 31", web.term(7, 20, 4), 21);
        due("COST 99999", web.told(21, 2), 99999);
        due("NOT: COST 100000", web.term(6, 21, 0), 22);
        due("COST 100000", web.told(22, 2), 100000);
        due("NOT: COST 100001", web.term(6, 22, 0), -5);
        due("AHEAD: COST 100001", web.term(12, 22, 0), -5);
        due("SOME of 100000", web.term(14, 0, 22), -5);
        due("terms", web.count(1), 23);
        while (web.count(1) < 60) {
            web.of(0, 0, 0);
        }
        due("of 60, and too dear", web.term(6, 22, 0), -2);
        due("SOME of 60, and too dear", web.term(14, 0, 22), -2);
    }

    private static void plainTerms() {
        PastWeb web = new PastWeb();
        for (int i = 0; i < 6; i++) {
            web.state(i - 1, -1);
            web.read(i < 4);
            web.put(0, i % 2, i / 2 % 2);
        }
        int sort = web.of(1, 0, 1);
        int shape = web.of(2, 0, 1);
        int not = web.term(6, sort, 0);
        due("sort", sure(web, sort), 0b001010);
        due("shape", sure(web, shape), 0b001100);
        due("NOT", sure(web, not), 0b000101);
        due("NOT may", may(web, not), 0b110101);
        due("NOT NOT", sure(web, web.term(6, not, 0)), 0b001010);
        due("NOT NOT may", may(web, web.term(6, not, 0)), 0b111010);
        due("BOTH", sure(web, web.term(7, sort, shape)), 0b001000);
        due("BOTH may", may(web, web.term(7, sort, shape)), 0b111000);
        due("EITHER", sure(web, web.term(8, sort, shape)), 0b001110);
        due("EITHER may", may(web, web.term(8, sort, shape)), 0b111110);
        due("EITHER it or not: not sure", sure(web, web.term(8, sort, not)), 0b001111);
        due("NOT SAME", may(web, web.term(6, web.two(5, 0, 0, 10), 0)), 0);
    }

    private static void timedTerms() {
        PastWeb web = Webs.chain(6, 0b010100, 0b000010);
        int there = web.of(0, 0, 0);
        int not = web.term(6, there, 0);
        due("EVER", sure(web, web.term(9, there, 0)), 0b111100);
        due("EVER may", may(web, web.term(9, there, 0)), 0b111110);
        due("ALWAYS NOT", sure(web, web.term(10, not, 0)), 0b000001);
        due("ALWAYS NOT may", may(web, web.term(10, not, 0)), 0b000011);
        due("FIRST: it may have held", sure(web, web.term(11, there, 0)), 0);
        due("FIRST may", may(web, web.term(11, there, 0)), 0b000110);
        due("AHEAD", sure(web, web.term(12, there, 0)), 0b101000);
        due("AHEAD may", may(web, web.term(12, there, 0)), 0b101100);
        due("SINCE NOT there", sure(web, web.term(13, not, there)), 0b111100);
        due("SINCE NOT there may", may(web, web.term(13, not, there)), 0b111110);
        due("SINCE there NOT", sure(web, web.term(13, there, not)), 0b111001);
        web = Webs.chain(3, 0b001, 0);
        due("EVER, from 0 on", sure(web, web.term(9, web.of(0, 0, 0), 0)), 0b111);
        web = Webs.chain(4, 0b1100, 0);
        due("FIRST", sure(web, web.term(11, web.of(0, 0, 0), 0)), 0b0100);
        due("FIRST may", may(web, web.term(11, 0, 0)), 0b0100);
        timedOverTwo();
    }

    private static void timedOverTwo() {
        PastWeb web = new PastWeb();
        web.state(-1, -1);
        web.state(-1, -1);
        web.put(0, 0, 0);
        web.state(0, -1);
        web.put(1, 0, 0);
        web.state(1, -1);
        web.put(1, 0, 0);
        web.state(2, 3);
        web.state(3, 2);
        web.gone(0);
        int zero = web.of(0, 10, 0);
        int one = web.of(0, 11, 0);
        due("zero", sure(web, zero), 0b011010);
        due("one", sure(web, one), 0b111100);
        due("EVER over both", sure(web, web.term(9, zero, 0)), 0b111010);
        due("ALWAYS over both", sure(web, web.term(10, zero, 0)), 0b001010);
        due("ALWAYS of one", sure(web, web.term(10, web.term(8, zero, one), 0)), 0b001010);
        due("AHEAD of some", sure(web, web.term(12, zero, 0)), 0b111000);
        due("FIRST in two lines", sure(web, web.term(11, one, 0)), 0b001100);
        due("SINCE in all ahead", sure(web, web.term(13, one, zero)), 0b011010);
        due("SINCE in both ahead", sure(web, web.term(13, one, web.term(8, zero, web.term(11, one, 0)))), 0b111110);
        due("SINCE: none ahead", sure(web, web.term(13, one, web.term(7, zero, one))), 0b011000);
    }

    private static void someTerms() {
        PastWeb web = Webs.parts(4);
        web.link(0, 0, 1, true);
        web.link(0, 1, 2, true);
        web.state(0, -1);
        web.read(false);
        web.state(1, -1);
        web.link(0, 0, 1, false);
        int one = web.two(3, 0, 0, 2);
        int two = web.two(3, 0, 2, 1);
        int over = web.term(14, 2, web.term(7, one, two));
        due("SOME 2: 0 over 1 to 2", web.span(over, 0, 2, 9, false), 1);
        due("SOME 2 may", web.span(over, 0, 2, 9, true), 3);
        due("SOME 2: none", web.span(over, 0, 1, 1, false), 0);
        due("rows of SOME", web.rows(over, false), 1);
        due("row of SOME", web.row(over, 0, false), 2);
        int none = web.term(6, web.term(14, 1, web.two(3, 0, 0, 1)), 0);
        due("none leads to it", web.span(none, 3, 0, 0, false), 5);
        due("none leads from 0", web.span(none, 0, 0, 0, false), 4);
        due("SOME over SOME of the same variable", web.rows(web.term(14, 0, web.term(14, 0, web.of(0, 0, 0))), false), 1);
        int inner = web.term(7, web.of(1, 0, 0), web.term(14, 0, web.two(3, 0, 10, 0)));
        due("SOME within leaves the variable outside", web.span(inner, 9, 0, 0, false), 0);
        due("SOME within leaves the variable outside", web.span(inner, 3, 0, 0, false), 1);
        due("SOME that leads to 0", web.span(web.term(14, 0, web.two(3, 0, 0, 1)), 0, 0, 0, false), 0);
        due("SOME that leads to 1: 0 alone", web.span(web.term(14, 0, web.two(3, 0, 0, 1)), 9, 1, 0, false), 1);
        due("SOME of all 16 names", sure(web, web.term(14, 0, web.term(6, web.of(0, 0, 0), 0))), 5);
    }

    private static void promise17() {
        PastWeb web = new PastWeb();
        web.of(0, 0, 0);
        web.of(1, 2, 0);
        web.of(2, 10, 0);
        web.two(3, 0, 0, 2);
        web.two(4, 0, 1, 25);
        web.two(5, 0, 11, 12);
        web.term(6, 1, 0);
        web.term(7, 3, 4);
        web.term(8, 6, 7);
        web.term(9, 8, 0);
        web.term(10, 9, 0);
        web.term(11, 10, 0);
        web.term(12, 11, 0);
        web.term(13, 12, 12);
        web.term(14, 2, 7);
        web.term(14, 1, 14);
        int[] free = {1, 4, 0, 5, 2, 0, 4, 7, 7, 7, 7, 7, 7, 7, 3, 1};
        int[] cost = {1, 1, 1, 1, 1, 1, 2, 3, 6, 7, 8, 9, 10, 21, 49, 785};
        int[] deep = {1, 1, 1, 1, 1, 1, 2, 2, 3, 4, 5, 6, 7, 8, 3, 4};
        for (int term = 0; term < 16; term++) {
            due("told(" + term + ", 0)", web.told(term, 0), term == 15 ? 14 : term);
            due("told(" + term + ", 1)", web.told(term, 1), free[term]);
            due("told(" + term + ", 2)", web.told(term, 2), cost[term]);
            due("told(" + term + ", 3)", web.told(term, 3), deep[term]);
        }
        due("SOME of a variable that is not free", web.told(web.term(14, 1, 3), 1), 5);
        due("SINCE of several variables", web.told(web.term(13, 0, 1), 1), 5);
        due("SINCE of several variables", web.told(web.term(13, 4, 1), 1), 6);
        due("deep by the second", web.told(web.term(7, 0, 13), 3), 9);
        due("deep by the first", web.told(web.term(7, 13, 0), 3), 9);
        due("told(-1, 0)", web.told(-1, 0), -1);
        due("told(21, 0)", web.told(21, 0), -1);
        due("told(0, -1)", web.told(0, -1), -1);
        due("told(0, 4)", web.told(0, 4), -1);
        web = new PastWeb();
        web.of(0, 0, 0);
        for (int i = 0; i < 59; i++) {
            web.term(6, i, 0);
        }
        due("60 deep", web.told(59, 3), 60);
    }

    private static void promise18() {
        PastWeb web = Webs.parts(2);
        web.put(2, 1, 7);
        web.link(0, 0, 2, true);
        int term = web.term(7, web.two(3, 0, 0, 2), web.of(0, 1, 0));
        due("span(0, 1, 2)", web.span(term, 0, 1, 2, false), 1);
        due("span(1, 1, 2)", web.span(term, 1, 1, 2, false), 0);
        due("span(0, 5, 2)", web.span(term, 0, 5, 2, false), 0);
        due("span(0, 1, 1)", web.span(term, 0, 1, 1, false), 0);
        due("span(0, 1, 15)", web.span(term, 0, 1, 15, true), 0);
        for (int wrong : new int[] {-1, 16, MIN, MAX}) {
            due("span, x wrong", web.span(term, wrong, 1, 2, false), -1);
            due("span, y wrong", web.span(term, 0, wrong, 2, false), -1);
            due("span, z wrong", web.span(term, 0, 1, wrong, true), -1);
        }
        due("span(-1)", web.span(-1, 0, 0, 0, false), -1);
        due("span(3)", web.span(3, 0, 0, 0, false), -1);
        int closed = web.of(0, 12, 0);
        due("x, y, z of a term without variables", web.span(closed, 16, 0, 0, false), -1);
        due("a term without variables", web.span(closed, 9, 9, 9, false), 1);
        int dear = Webs.costing(web, 600, 0);
        due("COST", web.told(dear, 2), 600);
        due("span of COST 600", web.span(dear, 0, 0, 0, false) >= 0 ? 1 : 0, 1);
        int dearer = web.term(6, dear, 0);
        due("span of COST 601", web.span(dearer, 0, 0, 0, false), -5);
        due("span of COST 601, wide", web.span(dearer, 0, 0, 0, true), -5);
        due("span of COST 601, x wrong", web.span(dearer, 16, 0, 0, true), -1);
        due("span of no states", noStates(), 0);
        web = Webs.chain(30, -1, 0);
        due("span of all 30 states", sure(web, web.of(0, 0, 0)), (1 << 30) - 1);
        due("NOT of all 30 states", may(web, web.term(6, 0, 0)), 0);
        due("SORT of all 30 states", sure(web, web.of(1, 0, 0)), (1 << 30) - 1);
        due("SHAPE of all 30 states", sure(web, web.of(2, 0, 0)), (1 << 30) - 1);
        due("SINCE of all 30 states", sure(web, web.term(13, 0, web.term(11, 0, 0))), (1 << 30) - 1);
        due("AHEAD of all 30 states", sure(web, web.term(12, 0, 0)), (1 << 30) - 2);
        due("meet of 30", web.meet(29, 28), 1 << 28);
        due("between of 30", web.between(0, 29), (1 << 30) - 1);
        due("together of 30", web.together(0, 0, 0), 1);
        due("roads of 30", Check.roads(web, 0, 29), "1");
    }

    private static int noStates() {
        PastWeb web = new PastWeb();
        web.term(6, web.two(5, 0, 0, 1), 0);
        return web.span(0, 0, 0, 0, true) + web.span(1, 0, 0, 0, true);
    }

    private static void promise19() {
        PastWeb web = Webs.net();
        due("lines(0)", web.lines(0), 0);
        due("lines of all", web.lines(0x7f), 0x21);
        due("lines of 2, 3, 4, 6", web.lines(0x5c), 0x0c);
        due("lines of 5, 6", web.lines(0x60), 0x20);
        due("lines of 1, 6", web.lines(0x42), 0x02);
        due("lines of 4, 5", web.lines(0x30), 0x30);
        due("lines of 0, 4: over others", web.lines(0x11), 0x01);
        due("lines of 7", web.lines(0x80), -1);
        due("lines of 0, 7", web.lines(0x81), -1);
        due("lines(-1)", web.lines(-1), -1);
        due("lines(MIN)", web.lines(MIN), -1);
        due("lines(MAX)", web.lines(MAX), -1);
        due("lines(0) of none", new PastWeb().lines(0), 0);
        due("lines(1) of none", new PastWeb().lines(1), -1);
        web = Webs.chain(30, 0, 0);
        due("lines of the last of 30", web.lines(1 << 29), 1 << 29);
        due("lines(1 << 30) of 30", web.lines(1 << 30), -1);
    }

    private static void promise20() {
        PastWeb web = Webs.parts(3);
        web.link(0, 0, 1, true);
        web.link(0, 2, 1, true);
        int link = web.two(3, 0, 0, 1);
        int third = web.two(3, 0, 0, 2);
        int second = web.of(0, 1, 0);
        int closed = web.of(0, 12, 0);
        due("rows of LINK", web.rows(link, false), 2);
        due("rows of THERE 1", web.rows(second, false), 3);
        due("rows without variables", web.rows(closed, false), 1);
        due("rows without variables, none", web.rows(web.of(0, 25, 0), false), 0);
        due("rows of SAME", web.rows(web.two(5, 0, 1, 0), false), 16);
        due("rows of NOT LINK", web.rows(web.term(6, link, 0), false), 254);
        due("VARIABLE 2", web.rows(third, false), -4);
        due("VARIABLE 2 not free", web.rows(web.term(14, 2, third), false), 2);
        due("rows(-1)", web.rows(-1, false), -1);
        due("rows of none", web.rows(60, true), -1);
        web.state(0, -1);
        web.read(false);
        due("rows, the latest not read", web.rows(link, false), 2);
        due("wide rows", web.rows(link, true), 256);
        due("wide rows of THERE 1", web.rows(second, true), 16);
        due("wide rows without variables", web.rows(closed, true), 1);
        web.read(true);
        due("wide rows, read", web.rows(link, true), 2);
        web.gone(1);
        due("rows of what was", web.rows(link, false), 2);
        web.undo();
        web.gone(1);
        due("rows after a change", web.rows(link, false), 0);
        rowsTooDear();
    }

    private static void rowsTooDear() {
        PastWeb web = Webs.parts(1);
        int dear = Webs.costing(web, 600, 0);
        due("rows of COST 600", web.rows(dear, false) >= 0 ? 1 : 0, 1);
        int dearer = web.term(6, dear, 0);
        int third = web.term(7, dear, web.of(0, 2, 0));
        due("rows of COST 601", web.rows(dearer, false), -5);
        due("rows of COST 602 with VARIABLE 2", web.rows(third, true), -4);
        due("row of COST 601", web.row(dearer, 999, false), -5);
        due("row of COST 602 with VARIABLE 2", web.row(third, 999, false), -4);
        due("apart of COST 601", web.apart(dear, dearer), -5);
        due("apart of COST 601", web.apart(dearer, dear), -5);
        due("apart of both", web.apart(dearer, third), -4);
        due("apart of both", web.apart(third, dearer), -4);
        due("apart of both, and none", web.apart(third, -1), -1);
        due("apart of none, and both", web.apart(60, dearer), -1);
        due("keepTerm of COST 601", web.keepTerm(dearer), -5);
        due("keepTerm with VARIABLE 2", web.keepTerm(third), -4);
        due("keep of COST 601", web.keep(0, 3, dearer), -5);
        due("keep with VARIABLE 2", web.keep(0, 3, third), -4);
        due("keep of the term itself", web.keep(0, 1, third), 0);
    }

    private static void promise21() {
        PastWeb web = Webs.parts(3);
        web.link(0, 2, 0, true);
        web.link(0, 0, 2, true);
        web.link(0, 0, 1, true);
        int link = web.two(3, 0, 0, 1);
        int[] rows = {1, 2, 32};
        for (int i = 0; i < 3; i++) {
            due("row(LINK, " + i + ")", web.row(link, i, false), rows[i]);
        }
        due("row behind the last", web.row(link, 3, false), -3);
        due("row far behind", web.row(link, MAX, false), -3);
        due("row(-1)", web.row(link, -1, false), -1);
        due("row(MIN)", web.row(link, MIN, true), -1);
        due("row of no term", web.row(9, 0, false), -1);
        int turned = web.two(3, 0, 1, 0);
        due("row, 0's number first", web.row(turned, 0, false), 2);
        due("row, 0's number first", web.row(turned, 1, false), 16);
        due("row, 0's number first", web.row(turned, 2, false), 32);
        due("row of THERE 1", web.row(web.of(0, 1, 0), 2, false), 2);
        due("row of THERE 0", web.row(web.of(0, 0, 0), 2, false), 32);
        due("row without variables", web.row(web.of(0, 11, 0), 0, false), 0);
        due("row of a third variable", web.row(web.two(3, 0, 2, 0), 0, false), -4);
        due("row of a third variable, behind", web.row(web.two(3, 0, 2, 0), 999, false), -4);
        web.read(false);
        due("row, none is sure", web.row(link, 0, false), -3);
        due("wide row", web.row(link, 255, true), 255);
        due("wide row behind the last", web.row(link, 256, true), -3);
        due("wide row of THERE 0", web.row(web.of(0, 0, 0), 15, true), 240);
    }

    private static void promise22() {
        PastWeb web = Webs.parts(2);
        int there = web.of(0, 0, 0);
        int sort = web.of(1, 0, 0);
        int second = web.of(0, 1, 0);
        due("alike so far", web.apart(there, sort), -2);
        web.state(0, -1);
        due("alike so far", web.apart(there, sort), -2);
        web.state(1, -1);
        web.put(5, 1, 1);
        web.state(2, -1);
        web.put(6, 1, 1);
        due("apart from 2 on", web.apart(there, sort), 2);
        due("apart from 2 on, the other way", web.apart(sort, there), 2);
        due("of other variables", web.apart(there, second), 0);
        due("of itself", web.apart(there, there), -2);
        due("of parts", web.apart(web.of(0, 10, 0), web.of(0, 15, 0)), 0);
        due("of parts", web.apart(web.of(0, 19, 0), web.of(0, 15, 0)), 2);
        due("of parts", web.apart(web.of(0, 19, 0), web.of(0, 16, 0)), 3);
        due("of a part and a variable", web.apart(web.of(0, 10, 0), there), 0);
        due("of third variables", web.apart(web.of(0, 2, 0), there), -4);
        due("of third variables", web.apart(there, web.of(0, 2, 0)), -4);
        due("of a third variable twice", web.apart(web.of(0, 2, 0), web.of(0, 2, 0)), -4);
        due("apart(-1, 0)", web.apart(-1, 0), -1);
        due("apart(0, 60)", web.apart(0, 60), -1);
        due("of a third one and none", web.apart(web.of(0, 2, 0), 60), -1);
        web.undo();
        web.read(false);
        due("by sure spans alone", web.apart(there, sort), -2);
        due("by sure spans alone", web.apart(web.term(6, web.two(5, 0, 0, 0), 0), web.of(0, 19, 0)), -2);
        web.read(true);
        due("by sure spans", web.apart(there, sort), 2);
        web.state(-1, -1);
        web.undo();
        due("of no states", new PastWeb().apart(0, 0), -1);
        PastWeb none = new PastWeb();
        due("of no states", none.apart(none.of(0, 0, 0), none.two(5, 0, 0, 1)), -2);
    }

    private static void promise23() {
        PastWeb web = Webs.parts(2);
        int there = web.of(0, 0, 0);
        int third = web.of(0, 2, 0);
        due("keepTerm(-1)", web.keepTerm(-1), -1);
        due("keepTerm(2)", web.keepTerm(2), -1);
        due("keepTerm with VARIABLE 2", web.keepTerm(third), -4);
        due("none is kept", web.count(2), 0);
        for (int i = 0; i < 6; i++) {
            due("keepTerm", web.keepTerm(there), i);
        }
        due("keepTerm of 6", web.keepTerm(there), -2);
        due("keepTerm of 6, no term", web.keepTerm(2), -1);
        due("keepTerm of 6, VARIABLE 2", web.keepTerm(third), -4);
        int dearer = web.term(6, Webs.costing(web, 600, 0), 0);
        due("keepTerm of 6, too dear", web.keepTerm(dearer), -5);
        due("six are kept", web.count(2), 6);
        web.forget();
        due("keepTerm after forget", web.keepTerm(there), 0);
        due("news at once", web.news(0, 0) + web.news(0, 1) + web.news(0, 2) + web.news(0, 3), 0);
        web.state(0, -1);
        due("keepTerm later", web.keepTerm(there), 1);
        due("each with its own spans", web.news(0, 2), 2);
        due("each with its own spans", web.news(1, 2), 0);
    }

    /** Kept over states 0 and 1: part 0 in both, 1 in 0, 2 in 0, 3 in 1, 4 in none; then 1 changes. */
    private static PastWeb changing() {
        PastWeb web = Webs.parts(3);
        web.state(0, -1);
        web.gone(1);
        web.gone(2);
        web.put(3, 0, 0);
        web.of(0, 0, 0);
        web.of(1, 0, 3);
        web.keepTerm(0);
        web.keepTerm(1);
        return web;
    }

    private static void promise24() {
        PastWeb web = changing();
        due("fresh(-1, 0)", web.fresh(-1, 0), -1);
        due("fresh(2, 0)", web.fresh(2, 0), -1);
        due("fresh(0, -1)", web.fresh(0, -1), -1);
        due("fresh(0, 4)", web.fresh(0, 4), -1);
        web.put(1, 0, 0);
        web.put(4, 0, 0);
        web.put(5, 0, 0);
        web.gone(3);
        due("refused", web.fresh(0, 4), -1);
        due("and not freshened", web.news(0, 0), 2);
        due("fresh: NEWS", web.fresh(0, 0), 2);
        for (int what = 0; what < 4; what++) {
            due("news behind it", web.news(0, what), 0);
        }
        web.put(3, 0, 0);
        web.gone(1);
        web.put(2, 0, 0);
        due("fresh: LONGER", web.fresh(0, 2), 1);
        due("fresh again", web.fresh(0, 2), 0);
        web.gone(3);
        web.gone(4);
        web.gone(5);
        due("fresh: GONE", web.fresh(0, 1), 3);
        web.gone(0);
        due("fresh: OTHER", web.fresh(0, 3), 1);
        web.put(6, 3, 0);
        due("the other one was not freshened", web.fresh(1, 0), 1);
        web.forget();
        due("fresh of none", web.fresh(0, 0), -1);
    }

    private static void promise25() {
        PastWeb web = changing();
        due("news(-1, 0)", web.news(-1, 0), -1);
        due("news(2, 0)", web.news(2, 0), -1);
        due("news(0, -1)", web.news(0, -1), -1);
        due("news(0, 4)", web.news(0, 4), -1);
        web.put(1, 0, 0);
        web.put(2, 3, 0);
        web.put(4, 0, 0);
        web.gone(3);
        web.gone(0);
        for (int i = 0; i < 2; i++) {
            due("NEWS", web.news(0, 0), 1);
            due("GONE", web.news(0, 1), 1);
            due("LONGER", web.news(0, 2), 2);
            due("OTHER", web.news(0, 3), 1);
        }
        due("of the other one", web.news(1, 0), 1);
        web.put(0, 0, 0);
        web.put(3, 0, 0);
        due("as it was", web.news(0, 1) + web.news(0, 3), 0);
        web.state(1, -1);
        web.state(2, -1);
        due("LONGER: rows", web.news(0, 2), 4);
        web.read(false);
        due("by sure spans", web.news(0, 0), 1);
        newsOfOthers();
    }

    private static void newsOfOthers() {
        PastWeb web = Webs.parts(1);
        int either = web.term(8, web.of(1, 0, 1), web.of(1, 0, 2));
        web.put(0, 1, 0);
        web.keepTerm(either);
        due("span", sure(web, either), 1);
        web.state(-1, -1);
        web.put(0, 2, 0);
        due("LONGER", web.news(0, 2), 1);
        web.fresh(0, 0);
        web.put(0, 3, 0);
        due("OTHER, of fewer", web.news(0, 3), 1);
        due("not LONGER", web.news(0, 2), 0);
        sameLength();
    }

    /** A span of as many states, but others. */
    private static void sameLength() {
        PastWeb web = Webs.parts(1);
        int sort = web.of(1, 0, 0);
        web.keepTerm(sort);
        due("span", sure(web, sort), 1);
        web.put(0, 1, 0);
        web.state(-1, -1);
        web.put(0, 0, 0);
        due("span", sure(web, sort), 2);
        due("OTHER of as many", web.news(0, 3), 1);
        due("not LONGER", web.news(0, 2), 0);
        due("not GONE, not NEWS", web.news(0, 0) + web.news(0, 1), 0);
    }

    private static void promise26() {
        PastWeb web = changing();
        due("forget", web.forget(), 2);
        due("count(2)", web.count(2), 0);
        due("forget of none", web.forget(), 0);
        due("news of none", web.news(0, 0), -1);
        due("terms stay", web.count(1), 2);
        due("undo", web.undo(), 1);
        due("keepTerm", web.keepTerm(1), 0);
        due("fresh(1, 0)", web.fresh(1, 0), -1);
        due("forget", web.forget(), 1);
    }

    private static void promise27() {
        PastWeb web = changing();
        due("count(0)", web.count(0), 2);
        due("count(1)", web.count(1), 2);
        due("count(2)", web.count(2), 2);
        for (int wrong : new int[] {-1, 3, MIN, MAX}) {
            due("count, wrong", web.count(wrong), -1);
        }
        web.state(-5, -1);
        web.of(9, 0, 0);
        web.keepTerm(9);
        due("refused calls count nothing", web.count(0) + web.count(1) + web.count(2), 6);
    }

    private static void promise28() {
        PastWeb web = Webs.parts(2);
        web.put(15, 0, 99);
        web.state(0, -1);
        web.gone(0);
        web.state(1, -1);
        web.read(false);
        int there = web.of(0, 0, 0);
        int third = web.of(0, 2, 0);
        due("keep a row of ints", web.keep(0, 3, there), 0);
        due("places", Check.element(web, 0, 0) + Check.element(web, 0, 1) + Check.element(web, 0, 2), "320");
        due("no place more", Check.element(web, 0, 3), "throws.IllegalStateException");
        due("keep a row of bytes", web.keep(7, 4, 1), 0);
        due("bytes", Check.element(web, 7, 0) + Check.element(web, 7, 1) + Check.element(web, 7, 15), "-1099");
        due("no place more", Check.element(web, 7, 16), "throws.IllegalStateException");
        due("keep(-1, 0, 0)", web.keep(-1, 0, 0), -1);
        due("keep(8, 0, 0)", web.keep(8, 0, 0), -1);
        due("keep(8, 3, third)", web.keep(8, 3, third), -1);
        for (int what : new int[] {-1, 2, 5, MIN, MAX}) {
            due("keep, what wrong", web.keep(0, what, 0), -1);
        }
        for (int k : new int[] {-1, 2, MIN, MAX}) {
            due("keep no term", web.keep(0, 1, k), -1);
            due("keep rows of no term", web.keep(0, 3, k), -1);
            due("keep no state", web.keep(0, 4, k == 2 ? 3 : k), -1);
        }
        due("keep rows of a third variable", web.keep(0, 3, third), -4);
        due("it stayed", Check.element(web, 0, 0), "3");
        web.undo();
        web.put(14, 0, 0);
        due("the rows stay as they were", Check.element(web, 0, 1) + Check.element(web, 0, 2), "20");
        due("the bytes stay as they were", Check.element(web, 7, 14), "-1");
        due("keep a term", web.keep(0, 1, third), 0);
        due("weight", web.weight(0), 11);
        due("no row any more", Check.element(web, 0, 0), "throws.IllegalStateException");
        due("keep nothing", web.keep(0, 0, MIN), 0);
        due("nothing", web.weight(0), -11);
        due("keep nothing again", web.keep(0, 0, MAX), 0);
        web.keep(0, 4, 0);
        due("bytes in place of nothing", web.weight(0), -12);
        web.keep(0, 3, there);
        due("ints in place of bytes", web.copy(0, 0, 7, 0, 1), -12);
        PastWeb none = new PastWeb();
        none.of(0, 0, 0);
        due("rows of no states", none.keep(0, 3, 0), 0);
        due("no place", Check.element(none, 0, 0), "throws.IllegalStateException");
        due("held all the same", none.weight(0), -12);
    }

    private static void promise29() {
        PastWeb web = new PastWeb();
        web.of(0, 0, 0);
        due("make(0, 3, 60)", web.make(0, 3, 60), 0);
        due("make(7, 4, 60)", web.make(7, 4, 60), 0);
        due("element", Check.element(web, 0, 59) + Check.element(web, 7, 59), "00");
        due("element", Check.element(web, 0, 60), "throws.IllegalStateException");
        due("make(1, 3, 0)", web.make(1, 3, 0), 0);
        due("empty, but held", web.weight(1), -12);
        due("make(0, 3, 61)", web.make(0, 3, 61), -1);
        due("make(0, 3, MAX)", web.make(0, 3, MAX), -1);
        due("make(-1, 3, 1)", web.make(-1, 3, 1), -1);
        due("make(8, 3, -1)", web.make(8, 3, -1), -1);
        for (int what : new int[] {-1, 0, 1, 2, 5, MIN}) {
            due("make, what wrong", web.make(0, what, -1), -1);
        }
        due("make(0, 3, -1)", web.make(0, 3, -1), -14);
        due("make(0, 4, MIN)", web.make(0, 4, MIN), -14);
        due("it stayed", Check.element(web, 0, 59), "0");
        web.keep(0, 1, 0);
        web.make(0, 4, 2);
        due("in place of a term", web.weight(0), -12);
        due("of bytes", web.copy(0, 0, 7, 0, 2), 2);
        due("not of ints", web.copy(0, 0, 1, 0, 0), -12);
    }

    private static void promise30() {
        PastWeb web = Webs.parts(1);
        web.put(0, 0, 77);
        web.of(0, 0, 0);
        web.keep(0, 4, 0);
        web.keep(1, 1, 0);
        due("element", Check.element(web, 0, 0), "77");
        due("element", Check.element(web, 0, 1), "-1");
        for (int wrong : new int[] {-1, 16, MIN, MAX}) {
            due("no such place", Check.element(web, 0, wrong), "throws.IllegalStateException");
        }
        for (int wrong : new int[] {-1, 8, MIN, MAX}) {
            due("no such shelf", Check.element(web, wrong, 0), "throws.IllegalArgumentException");
            due("no such shelf, nor place", Check.element(web, wrong, -1), "throws.IllegalArgumentException");
        }
        due("a term", Check.element(web, 1, 0), "throws.IllegalStateException");
        due("nothing", Check.element(web, 2, 0), "throws.IllegalStateException");
    }

    /** Shelf 0: 1, 2, 3, 4 as ints; shelf 1: shapes 10 .. 25 as bytes; shelf 2: 6 ints; shelf 3: a term. */
    private static PastWeb shelves() {
        PastWeb web = new PastWeb();
        for (int i = 0; i < 4; i++) {
            web.state(i - 1, -1);
            web.put(i, 0, 10 + i);
        }
        for (int part = 4; part < 16; part++) {
            web.put(part, 1, 10 + part);
        }
        web.of(1, 0, 0);
        web.keep(0, 3, 0);
        web.keep(1, 4, 3);
        web.make(2, 3, 6);
        web.keep(3, 1, 0);
        return web;
    }

    private static void promise31() {
        PastWeb web = shelves();
        due("shelf 0", Told.row(web, 0, 4), "1 2 3 4");
        due("copy(0, 1, 2, 3, 3)", web.copy(0, 1, 2, 3, 3), 3);
        due("shelf 2", Told.row(web, 2, 6), "0 0 0 2 3 4");
        due("copy to itself, on", web.copy(0, 0, 0, 1, 3), 3);
        due("as they all were before", Told.row(web, 0, 4), "1 1 2 3");
        due("copy to itself, back", web.copy(0, 1, 0, 0, 3), 3);
        due("as they all were before", Told.row(web, 0, 4), "1 2 3 3");
        web.make(5, 4, 3);
        due("copy of bytes", web.copy(1, 13, 5, 0, 3), 3);
        due("shelf 5", Told.row(web, 5, 3), "23 24 25");
        due("copy of bytes to itself", web.copy(1, 0, 1, 1, 15), 15);
        due("shelf 1", Told.row(web, 1, 4), "10 10 11 12");
        due("copy of none at the ends", web.copy(0, 4, 2, 6, 0), 0);
        due("copy of all", web.copy(2, 0, 2, 0, 6), 6);
        copyRefused(web);
        web = shelves();
        web.keep(4, 3, 0);
        web.copy(2, 0, 4, 0, 4);
        due("two shelves do not share a row", Told.row(web, 0, 4), "1 2 3 4");
    }

    private static void copyRefused(PastWeb web) {
        String before = Told.row(web, 0, 4) + Told.row(web, 2, 6) + Told.row(web, 1, 16);
        due("copy(-1)", web.copy(-1, 0, 0, 0, 1), -1);
        due("copy to 8", web.copy(0, 0, 8, 0, 1), -1);
        due("copy of nothing", web.copy(6, 0, 0, 0, 1), -11);
        due("copy to nothing", web.copy(0, 0, 6, 0, 1), -11);
        due("copy of a term to nothing", web.copy(3, 0, 6, 0, 1), -11);
        due("copy of nothing, -1", web.copy(6, -1, 6, -1, -1), -11);
        due("copy of a term", web.copy(3, 0, 0, 0, 1), -12);
        due("copy to a term", web.copy(0, 0, 3, 0, 1), -12);
        due("copy of a term to itself", web.copy(3, 0, 3, 0, 0), -12);
        due("copy of ints to bytes", web.copy(0, 0, 1, 0, 0), -12);
        due("copy of bytes to ints, -1", web.copy(1, -1, 0, 0, 0), -12);
        int[][] wrong = {
            {-1, 0, 1}, {0, -1, 1}, {0, 0, -1}, {4, 0, 1}, {5, 0, 0}, {0, 7, 0}, {2, 0, 3}, {0, 4, 3}, {0, 0, 5},
            {MAX, 0, 1}, {0, MAX, 1}, {0, 0, MAX}, {1, 1, MAX}, {MIN, 0, 0}, {0, MIN, 0}, {0, 0, MIN}, {MAX, MAX, MAX},
            {-1, 0, 0}, {0, -1, 0}, {4, 6, MIN}
        };
        for (int[] w : wrong) {
            due("copy(0, " + w[0] + ", 2, " + w[1] + ", " + w[2] + ")", web.copy(0, w[0], 2, w[1], w[2]), -13);
        }
        due("nothing changed", Told.row(web, 0, 4) + Told.row(web, 2, 6) + Told.row(web, 1, 16), before);
    }

    private static PastWeb allKinds() {
        PastWeb web = new PastWeb();
        web.of(0, 0, 0);
        web.of(1, 0, 0);
        web.of(2, 0, 0);
        web.two(3, 0, 0, 1);
        web.two(4, 0, 0, 1);
        web.two(5, 0, 0, 1);
        web.term(6, 0, 0);
        web.term(7, 0, 6);
        web.term(8, 6, 0);
        web.term(9, 0, 0);
        web.term(10, 9, 0);
        web.term(11, 0, 0);
        web.term(12, 0, 0);
        web.term(13, 0, 0);
        web.term(14, 0, 7);
        return web;
    }

    private static void promise32() {
        PastWeb web = allKinds();
        int[] due = {11, 11, 11, 11, 11, 11, 122, 134, 134, 1122, 1133, 1122, 1122, 1123, 2 * (65 + 40 + 100)};
        for (int term = 0; term < 15; term++) {
            web.keep(term % 8, 1, term);
            due("weight of kind " + term, web.weight(term % 8), due[term]);
        }
        due("weight of SOME of SOME", someOfSome(web), 2 * (1 + 16 * 65 + 50 + 100));
        due("weight(-1)", web.weight(-1), -1);
        due("weight(8)", web.weight(8), -1);
        web.keep(0, 0, 0);
        due("weight of nothing", web.weight(0), -11);
        web.make(0, 3, 2);
        due("weight of ints", web.weight(0), -12);
        web.make(0, 4, 0);
        due("weight of bytes", web.weight(0), -12);
    }

    private static int someOfSome(PastWeb web) {
        web.keep(1, 1, web.term(14, 1, 14));
        return web.weight(1);
    }

    private static void promise33() {
        PastWeb web = allKinds();
        for (int term = 0; term < 15; term++) {
            web.keep(term % 8, 1, term);
            due("toss of kind " + term, web.toss(term % 8), term < 6 ? -15 : term);
            due("toss again", web.toss(term % 8), term < 6 ? -15 : term);
        }
        due("toss(-1)", web.toss(-1), -1);
        due("toss(8)", web.toss(8), -1);
        web.keep(0, 0, 0);
        due("toss of nothing", web.toss(0), -11);
        web.make(0, 3, 2);
        due("toss of ints", web.toss(0), -12);
        web.make(0, 4, 0);
        due("toss of bytes", web.toss(0), -12);
    }

    /** Two states, three terms, one kept, and something on three shelves. */
    private static PastWeb small() {
        PastWeb web = Webs.parts(3);
        web.link(0, 1, 2, true);
        web.of(0, 0, 0);
        web.two(3, 0, 0, 1);
        web.of(0, 2, 0);
        web.keepTerm(0);
        web.keepTerm(1);
        web.state(0, -1);
        web.put(4, 1, 1);
        web.gone(0);
        web.keep(0, 1, 1);
        web.keep(1, 3, 0);
        web.keep(2, 4, 0);
        return web;
    }

    private static void refusedCallsChangeNothing() {
        PastWeb web = small();
        String before = Told.all(small());
        long refused = 0;
        int[] answers = {
            web.state(5, -1), web.state(1, 1), web.put(1, 4, 1), web.put(16, 1, 1), web.put(1, 1, 100), web.gone(0),
            web.gone(16), web.link(3, 1, 2, false), web.link(0, 0, 2, true), web.link(0, 1, 16, false), web.undo(),
            web.of(1, 0, 4), web.of(0, 5, 0), web.two(3, 3, 0, 0), web.two(5, 0, 0, 26), web.term(14, 3, 0),
            web.term(7, 0, 3), web.term(6, -1, 0), web.keepTerm(2), web.keepTerm(3), web.fresh(0, 4), web.fresh(2, 0),
            web.keep(0, 1, 3), web.keep(0, 3, 2), web.keep(0, 4, 2), web.keep(0, 2, 0), web.keep(8, 0, 0),
            web.make(0, 3, 61), web.make(0, 4, -1), web.make(0, 1, 1), web.copy(1, 0, 2, 0, 1), web.copy(1, 0, 1, 1, 2),
            web.copy(0, 0, 0, 0, 0), web.copy(3, 0, 1, 0, 1), web.toss(8)
        };
        for (int answer : answers) {
            refused += answer < 0 ? 1 : 0;
        }
        due("refused calls", refused, answers.length);
        due("all answers behind refused calls", Told.all(web), before);
    }

    private static void deepTermsAnswer() {
        for (int kind : new int[] {6, 9, 10, 11, 12}) {
            PastWeb web = Webs.chain(30, 0x2aaaaaaa, 0);
            web.of(0, 0, 0);
            for (int i = 0; i < 59; i++) {
                web.term(kind, i, 0);
            }
            due("rows of a term 60 deep", web.rows(59, true) >= 0 ? 1 : 0, 1);
            due("span of a term 60 deep", web.span(59, 0, 0, 0, false), deepSpan(kind));
        }
    }

    private static int deepSpan(int kind) {
        switch (kind) {
            case 6: return 0x15555555;
            case 9: return 0x3ffffffe;
            case 10: return 0;
            case 11: return 2;
            default: return 0;
        }
    }

    private static void promises(int from) {
        switch (from) {
            case 1: promise1(); break;
            case 2: promise2(); break;
            case 3: promise3(); break;
            case 4: promise4(); break;
            case 5: promise5(); break;
            case 6: promise6(); break;
            case 7: promise7(); break;
            case 8: promise8(); break;
            case 9: promise9(); break;
            case 10: promise10(); break;
            case 11: promise11(); break;
            case 12: promise12(); break;
            case 13: promise13(); break;
            case 14: promise14(); break;
            case 15: promise15(); break;
            case 16: promise16(); break;
            case 17: promise17(); break;
            case 18: promise18(); break;
            case 19: promise19(); break;
            case 20: promise20(); break;
            case 21: promise21(); break;
            case 22: promise22(); break;
            case 23: promise23(); break;
            case 24: promise24(); break;
            case 25: promise25(); break;
            case 26: promise26(); break;
            case 27: promise27(); break;
            case 28: promise28(); break;
            case 29: promise29(); break;
            case 30: promise30(); break;
            case 31: promise31(); break;
            case 32: promise32(); break;
            case 33: promise33(); break;
            case 34: refusedCallsChangeNothing(); break;
            default: deepTermsAnswer(); break;
        }
    }

    public static void main(String[] args) {
        for (int number = 1; number <= 35; number++) {
            check.at(number <= 33 ? "promise " + number : number == 34 ? "refused calls" : "deep terms");
            promises(number);
        }
        check.end("PromisesTest");
    }
}

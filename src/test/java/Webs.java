/** Objects that tests begin with. */
final class Webs {
    /** The terms of busy() and full(): THERE 0; LINK 0 0 1; THERE 2; one with a cost of 785. */
    static final int THERE = 0;
    static final int LINK = 1;
    static final int THIRD = 2;
    static final int DEAR = 5;
    static final int BUSY_TERMS = 6;

    private Webs() {
    }

    static PastWeb none() {
        return new PastWeb();
    }

    /** State 0 with parts 0 .. n - 1, of sort 0 and shape 0. */
    static PastWeb parts(int n) {
        PastWeb web = new PastWeb();
        web.state(-1, -1);
        for (int part = 0; part < n; part++) {
            web.put(part, 0, 0);
        }
        return web;
    }

    /** Each state behind the one ahead of it; part 0 is there in those of a set; those of another are not read. */
    static PastWeb chain(int states, int there, int unread) {
        PastWeb web = new PastWeb();
        for (int i = 0; i < states; i++) {
            web.state(i - 1, -1);
            if ((there >> i & 1) != 0) {
                web.put(0, 0, 0);
            } else {
                web.gone(0);
            }
            web.read((unread >> i & 1) == 0);
        }
        return web;
    }

    /** State 1 behind 0, and each of the others behind the two that came last. */
    static PastWeb pairs(int states) {
        PastWeb web = new PastWeb();
        for (int i = 0; i < states; i++) {
            web.state(i - 1, i < 2 ? -1 : i - 2);
        }
        return web;
    }

    /** 0 and 1 behind it; 2 and 3 behind 1; 4 behind 3 and 2; 5 alone; 6 behind 4 and 5. */
    static PastWeb net() {
        PastWeb web = new PastWeb();
        web.state(-1, -1);
        web.state(0, -1);
        web.state(1, -1);
        web.state(1, -1);
        web.state(3, 2);
        web.state(-1, -1);
        web.state(4, 5);
        return web;
    }

    /**
     * States 0, 1 behind it and not read, 2 behind both; terms of all refusals; THERE and LINK kept in state 0;
     * shelf 0 LINK, 1 ints (3), 2 bytes (16), 3 ints (4), 4 bytes (60), 5 THERE, 6 and 7 nothing.
     */
    static PastWeb busy() {
        PastWeb web = new PastWeb();
        web.state(-1, -1);
        web.put(0, 1, 10);
        web.put(1, 1, 11);
        web.put(2, 1, 12);
        web.put(15, 3, 99);
        web.link(0, 0, 1, true);
        web.link(0, 1, 2, true);
        web.link(1, 15, 15, true);
        web.link(2, 2, 0, true);
        addTerms(web);
        web.keepTerm(THERE);
        web.keepTerm(LINK);
        web.state(0, -1);
        web.gone(1);
        web.put(3, 1, 11);
        web.read(false);
        web.state(1, 0);
        web.put(0, 2, 10);
        web.link(0, 0, 3, true);
        fillShelves(web);
        return web;
    }

    /** 30 states, 60 terms, 6 kept ones; shelves as those of busy(). */
    static PastWeb full() {
        PastWeb web = chain(30, 0x15555555, 0x08888888);
        addTerms(web);
        while (web.count(1) < 60) {
            web.of(0, 10 + web.count(1) % 16, 0);
        }
        for (int i = 0; i < 6; i++) {
            web.keepTerm(i % 2);
        }
        web.put(1, 2, 3);
        fillShelves(web);
        return web;
    }

    private static void addTerms(PastWeb web) {
        web.of(0, 0, 0);
        web.two(3, 0, 0, 1);
        web.of(0, 2, 0);
        web.term(7, THERE, THERE);
        web.term(14, 1, 3);
        web.term(14, 1, 4);
    }

    private static void fillShelves(PastWeb web) {
        web.keep(0, 1, LINK);
        web.keep(1, 3, THERE);
        web.keep(2, 4, 0);
        web.make(3, 3, 4);
        web.make(4, 4, 60);
        web.keep(5, 1, THERE);
        web.copy(1, 0, 3, 1, 2);
        web.copy(2, 0, 4, 44, 16);
    }

    /** A term of that cost, of variable u. */
    static int costing(PastWeb web, int cost, int u) {
        if (cost == 1) {
            return web.of(0, u, 0);
        }
        if (cost % 2 == 0) {
            return web.term(6, costing(web, cost - 1, u), 0);
        }
        int half = costing(web, cost / 2, u);
        return web.term(7, half, half);
    }
}

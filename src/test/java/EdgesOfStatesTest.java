/** The sentences about states that name an edge (Terms, promises 1 to 13), each with a test of its own. */
public final class EdgesOfStatesTest {
    private static final int MIN = Integer.MIN_VALUE;
    private static final int MAX = Integer.MAX_VALUE;
    private static final Check check = new Check();

    private static void due(String call, long got, long want) {
        check.due(call, got, want);
    }

    private static void due(String call, String got, String want) {
        check.due(call, got, want);
    }

    private static String at(String call, int... numbers) {
        return call + java.util.Arrays.toString(numbers);
    }


    // ---- Terms

    private static void numbersOfStates() {
        check.says(0, "STATES 0 .. 29 as they come");
        PastWeb web = new PastWeb();
        for (int i = 0; i < 30; i++) {
            due("state(-1, -1)", web.state(-1, -1), i);
        }
        due("look(29, 3)", web.look(29, 3), 1);
        due("look(30, 3)", web.look(30, 3), -1);
        web.undo();
        due("look(29, 3) behind undo", web.look(29, 3), -1);
        due("the number of one that went comes again", web.state(-1, -1), 29);

        check.says(0, "each with no, one or two STATES directly AHEAD of it (earlier ones)");
        web = Webs.none();
        due("no state ahead", web.state(-1, -1), 0);
        due("one state ahead", web.state(0, -1), 1);
        due("two states ahead", web.state(0, 1), 2);
        due("two states ahead, the later one first", web.state(2, 0), 3);
        due("itself ahead", web.state(4, -1), -1);
        due("itself ahead, as second", web.state(0, 4), -1);
        due("a later one ahead", web.state(5, -1), -1);
        due("a later one ahead, as second", web.state(0, 5), -1);
    }

    private static void statesAsBits() {
        check.says(0, "Sets of STATES are told as bits.");
        PastWeb web = Webs.chain(30, 1 | 1 << 29, 0);
        web.of(0, 0, 0);
        due("before state 1: state 0", web.look(1, 2), 1);
        due("before the last", web.look(29, 2), 0x1fffffff);
        due("the first and the last", web.span(0, 0, 0, 0, false), 0x20000001);
        due("the last of the wide span", web.span(0, 0, 0, 0, true), 0x20000001);
        due("meet", web.meet(29, 29), 0x20000000);
        due("between", web.between(28, 29), 0x30000000);
        due("lines", web.lines(0x20000000), 0x20000000);
        due("the empty set", web.between(29, 0), 0);
    }

    private static void statesBefore() {
        check.says(0, "BEFORE a STATE are those AHEAD of it, and those BEFORE these");
        PastWeb web = Webs.chain(30, 0, 0);
        due("before the first", web.look(0, 2), 0);
        due("before the second", web.look(1, 2), 1);
        due("before the last of 30", web.look(29, 2), (1 << 29) - 1);
        web = Webs.net();
        due("before one with two ahead", web.look(4, 2), 15);
        due("before one alone", web.look(5, 2), 0);
        due("before one behind two lines", web.look(6, 2), 63);
        due("not those behind it, nor beside it", web.look(2, 2), 3);
    }

    private static void partsOfStates() {
        check.says(0, "PARTS 0 .. 15 are names of all STATES");
        PastWeb web = Webs.none();
        web.state(-1, -1);
        for (int part = 0; part < 16; part++) {
            due("put(" + part + ")", web.put(part, 0, 0), 1);
        }
        due("all 16 are there", web.look(0, 4), 0xffff);

        check.says(0, "in a STATE a PART is there, or not, with a SORT (0 .. 3) and a SHAPE (0 .. 99)");
        for (int sort = 0; sort < 4; sort++) {
            web.put(sort, sort, 99 - 33 * sort);
            due("sort " + sort, web.part(0, sort, 0), sort);
            due("shape of sort " + sort, web.part(0, sort, 1), 99 - 33 * sort);
        }

        check.says(0, "LINKS of kinds 0 (calls), 1 (reads), 2 (has)");
        web = Webs.parts(2);
        for (int kind = -1; kind < 4; kind++) {
            due("a link of kind " + kind, web.link(kind, 0, 1, true), kind < 0 || kind > 2 ? -1 : 1);
        }
        due("one of each kind", web.look(0, 5), 3);

        check.says(0, "lead from PARTS to PARTS that are there (perhaps to itself)");
        web = Webs.parts(2);
        for (int kind = 0; kind < 3; kind++) {
            due("a link of kind " + kind, web.link(kind, 0, 1, true), 1);
            due("one to itself", web.link(kind, 1, 1, true), 1);
        }
        due("to one that is not there", web.link(0, 0, 2, true), -4);
        due("from one that is not there", web.link(0, 2, 0, true), -4);
        due("from one not there to itself", web.link(0, 2, 2, true), -4);
        due("links", web.look(0, 5), 6);
    }

    private static void whatAStateHasAsItComes() {
        check.says(0, "As it comes a STATE has the PARTS and LINKS of those AHEAD of it");
        PastWeb web = Webs.parts(2);
        web.link(0, 0, 1, true);
        web.state(-1, -1);
        due("parts, none ahead", web.look(1, 4), 0);
        due("links, none ahead", web.look(1, 5), 0);
        web.put(1, 3, 30);
        web.put(2, 3, 31);
        web.link(0, 1, 2, true);
        web.link(2, 1, 1, true);
        web.state(1, -1);
        due("parts, one ahead", web.look(2, 4), 6);
        due("links, one ahead", web.look(2, 5), 2);
        due("sort", web.part(2, 2, 0), 3);
        due("shape", web.part(2, 2, 1), 31);
        web.undo();
        web.state(0, -1);
        due("parts of the first alone", web.look(2, 4), 3);
        due("links of the first alone", web.look(2, 5), 1);
        web.undo();

        check.says(0, "of two: of both together; SORT and SHAPE of the first where both have a PART");
        web.state(0, 1);
        due("parts of both", web.look(2, 4), 7);
        due("links of both", web.look(2, 5), 3);
        due("sort of the first", web.part(2, 1, 0), 0);
        due("shape of the first", web.part(2, 1, 1), 0);
        due("sort of the second, where the first has none", web.part(2, 2, 0), 3);
        due("links from 1", web.part(2, 1, 2) + web.part(2, 1, 4), 6);
        web.undo();
        web.state(1, 0);
        due("sort of the first, the other way", web.part(2, 1, 0), 3);
        due("shape of the first, the other way", web.part(2, 1, 1), 30);
        due("a link that both have is one", both(), 1);
    }

    private static int both() {
        PastWeb web = Webs.parts(2);
        web.link(0, 0, 1, true);
        web.state(0, -1);
        web.state(0, 1);
        return web.look(2, 5);
    }

    private static void latestChanges() {
        check.says(0, "The latest STATE can be changed; no other.");
        PastWeb web = Webs.parts(3);
        web.link(0, 0, 1, true);
        web.state(0, -1);
        web.put(0, 3, 99);
        web.put(5, 0, 0);
        web.gone(2);
        web.link(0, 0, 1, false);
        web.link(1, 1, 1, true);
        web.read(false);
        due("parts of the one ahead", web.look(0, 4), 7);
        due("sort there", web.part(0, 0, 0), 0);
        due("shape there", web.part(0, 0, 1), 0);
        due("links there", web.look(0, 5), 1);
        due("read there", web.look(0, 3), 1);
        web.undo();
        web.put(0, 1, 1);
        due("the latest one now", web.part(0, 0, 1), 1);

        check.says(0, "A STATE is READ (at first), or not.");
        due("read(true)", web.read(true), 0);
        due("look", web.look(0, 3), 1);
        web.read(false);
        due("look", web.look(0, 3), 0);
        web.state(0, -1);
        due("at first, behind one not read", web.look(1, 3), 1);
        web.read(false);
        web.undo();
        web.state(0, -1);
        due("at first, of a number that was not read", web.look(1, 3), 1);
    }

    private static void whatChanged() {
        check.says(0, "there in it and not in the first STATE AHEAD of it, or the other way round, or there with another "
                + "SORT, SHAPE, or with other LINKS that lead from it");
        PastWeb web = Webs.parts(7);
        web.link(1, 5, 6, true);
        web.state(0, -1);
        due("as it comes", web.look(1, 6), 0);
        web.put(15, 0, 0);
        due("there, and not ahead", web.look(1, 6), 0x8000);
        web.gone(0);
        due("ahead, and not there", web.look(1, 6), 0x8001);
        web.put(1, 1, 0);
        due("another sort", web.look(1, 6), 0x8003);
        web.put(2, 0, 99);
        due("another shape", web.look(1, 6), 0x8007);
        web.link(0, 3, 4, true);
        due("a link from 3 to 4", web.look(1, 6), 0x800f);
        web.link(1, 5, 6, false);
        due("a link from 5 less", web.look(1, 6), 0x802f);
        web.link(2, 5, 6, true);
        due("as many links, of another kind", web.look(1, 6), 0x802f);
        web.link(2, 5, 6, false);
        web.link(1, 5, 6, true);
        due("its link as it was", web.look(1, 6), 0x800f);
        web.link(1, 6, 6, true);
        due("a link to itself leads from it", web.look(1, 6), 0x804f);
        changedBySecond();
    }

    private static void changedBySecond() {
        PastWeb web = Webs.parts(1);
        web.state(-1, -1);
        web.put(1, 0, 0);
        web.state(0, 1);
        due("the first one ahead alone is looked at", web.look(2, 6), 2);
        web.undo();
        web.state(1, 0);
        due("the first one ahead alone, the other way", web.look(2, 6), 1);

        check.says(0, "in one with none AHEAD: those that are there");
        web = Webs.none();
        web.state(-1, -1);
        due("none are there", web.look(0, 6), 0);
        web.put(0, 0, 0);
        web.put(15, 0, 0);
        due("two are there", web.look(0, 6), 0x8001);
        web.state(-1, -1);
        web.put(3, 0, 0);
        due("in a later one with none ahead", web.look(1, 6), 8);

        check.says(0, "(STATES that aren't READ: none CHANGED. The STATE AHEAD may be READ or not.)");
        web.read(false);
        due("not read, none ahead", web.look(1, 6), 0);
        web.state(1, -1);
        web.put(4, 0, 0);
        due("the one ahead is not read", web.look(2, 6), 16);
        web.read(false);
        due("not read, one ahead", web.look(2, 6), 0);
    }

    private static void whatWentOver() {
        check.says(0, "in a STATE with one AHEAD at least");
        PastWeb web = Webs.parts(2);
        web.gone(0);
        due("none ahead", web.part(0, 0, 5), -2);
        web.state(0, -1);
        web.gone(1);
        web.put(0, 0, 0);
        due("one ahead", web.part(1, 1, 5), 0);
        web.state(-1, -1);
        web.state(1, 2);
        web.gone(0);
        web.put(9, 0, 0);
        due("two ahead", web.part(3, 0, 5), 9);

        check.says(0, "of PARTS that are there in the first STATE AHEAD, not in it");
        web = Webs.parts(2);
        web.state(-1, -1);
        web.put(2, 0, 0);
        web.put(3, 1, 1);
        web.state(0, 1);
        web.gone(0);
        web.gone(3);
        web.put(7, 1, 1);
        due("of the first, to one that came of the second", web.part(2, 0, 5), 2);
        due("one that stays", web.part(2, 1, 5), -2);
        due("one of the second alone", web.part(2, 3, 5), -2);
        due("one that is new", web.part(2, 7, 5), -2);
        due("one that never was", web.part(2, 15, 5), -2);

        check.says(0, "by numbers, each to the least PART that is there, not in that STATE AHEAD");
        web = Webs.parts(0);
        web.put(4, 1, 1);
        web.put(8, 1, 1);
        web.put(9, 1, 1);
        web.state(0, -1);
        web.gone(8);
        web.gone(4);
        web.put(15, 1, 1);
        web.put(0, 1, 1);
        due("the lower number first, to the least", web.part(1, 4, 5), 0);
        due("the next one, to the next", web.part(1, 8, 5), 15);
        wentByLooks(web);
        wentOrStays();
    }

    private static void wentOrStays() {
        PastWeb web = Webs.parts(4);
        web.put(1, 3, 3);
        web.state(0, -1);
        web.gone(1);
        web.gone(3);
        web.put(15, 0, 0);
        due("to none: no such looks", web.part(1, 1, 5), -2);
        due("one that stays does not go, though it could", web.part(1, 2, 5), -2);
        due("nor takes another's place", web.part(1, 3, 5), 15);
        web = Webs.parts(3);
        web.put(1, 3, 3);
        web.gone(0);
        web.state(0, -1);
        web.gone(1);
        web.gone(2);
        web.put(0, 0, 0);
        due("to none", web.part(1, 1, 5), -2);
        due("that takes none from the next one", web.part(1, 2, 5), 0);
    }

    private static void wentByLooks(PastWeb web) {
        check.says(0, "with the same SORT and SHAPE, to which no other one went; or to none");
        web.gone(9);
        due("all are taken", web.part(1, 9, 5), -2);
        web.put(0, 2, 1);
        due("another sort", web.part(1, 4, 5), 15);
        due("then none is left", web.part(1, 8, 5), -2);
        web.put(15, 1, 2);
        due("another shape", web.part(1, 4, 5), -2);
        web.put(15, 1, 1);
        web.put(0, 1, 1);
        web.put(14, 1, 1);
        due("three to three", web.part(1, 4, 5) * 10000L + web.part(1, 8, 5) * 100 + web.part(1, 9, 5), 1415);
    }

    // ---- promises

    private static void promise1() {
        check.says(1, "No STATES, no TERMS.");
        PastWeb web = Webs.none();
        due("states", web.count(0), 0);
        due("terms", web.count(1), 0);
        due("kept ones", web.count(2), 0);
        due("state 0", web.look(0, 4), -1);
        due("term 0", web.told(0, 0), -1);
        due("the first state", web.state(-1, -1), 0);
        due("the first term", web.of(0, 0, 0), 0);
        due("another object's states", Webs.none().count(0), 0);
    }

    private static void promise2() {
        check.says(2, "(-1: none; b then, too; unlike)");
        int[][] wrong = {
            {-1, 0}, {-1, 2}, {-2, -1}, {-1, -2}, {0, -2}, {3, -1}, {0, 3}, {0, 0}, {2, 2}, {-2, -2}, {MIN, -1},
            {-1, MIN}, {MIN, MIN}, {MAX, -1}, {-1, MAX}, {0, MAX}, {0, MIN}, {MAX, MAX}, {30, 0}, {29, -1}
        };
        for (int[] w : wrong) {
            check.refused(at("state", w), Webs::busy, web -> web.state(w[0], w[1]), -1);
        }
        for (int[] w : new int[][] {{0, -1}, {0, 0}, {-1, 0}}) {
            check.refused(at("state of none", w), Webs::none, web -> web.state(w[0], w[1]), -1);
        }
        for (int[] right : new int[][] {{-1, -1}, {0, -1}, {2, -1}, {0, 2}, {2, 0}, {1, 2}}) {
            PastWeb web = Webs.busy();
            due(at("state", right), web.state(right[0], right[1]), 3);
            due("ahead", web.look(3, 0), right[0] < 0 ? -2 : right[0]);
            due("ahead, second", web.look(3, 1), right[1] < 0 ? -2 : right[1]);
        }

        check.says(2, "-2: there are 30");
        due("the 30th", Webs.chain(29, 0, 0).state(28, 0), 29);
        for (int[] right : new int[][] {{-1, -1}, {29, -1}, {0, 29}}) {
            check.refused(at("state of 30", right), Webs::full, web -> web.state(right[0], right[1]), -2);
        }
        for (int[] w : new int[][] {{30, -1}, {-1, 0}, {29, 29}, {MIN, MAX}}) {
            check.refused(at("state of 30", w), Webs::full, web -> web.state(w[0], w[1]), -1);
        }
        PastWeb web = Webs.chain(30, 0, 0);
        web.undo();
        due("one went, one comes", web.state(-1, -1), 29);
    }

    private static void promise3() {
        check.says(3, "1 if it was not, else (with others, too) 0");
        for (int part : new int[] {0, 15}) {
            for (int sort : new int[] {0, 3}) {
                for (int shape : new int[] {0, 99}) {
                    PastWeb web = Webs.parts(0);
                    due(at("put", part, sort, shape), web.put(part, sort, shape), 1);
                    due("parts", web.look(0, 4), 1 << part);
                    due("sort", web.part(0, part, 0), sort);
                    due("shape", web.part(0, part, 1), shape);
                    due("put again", web.put(part, sort, shape), 0);
                    due("put with others", web.put(part, 3 - sort, 99 - shape), 0);
                    due("sort", web.part(0, part, 0), 3 - sort);
                    due("shape", web.part(0, part, 1), 99 - shape);
                    web.gone(part);
                    due("put behind gone", web.put(part, sort, shape), 1);
                }
            }
        }

        check.says(3, "-1; -3: there is no STATE");
        int[][] wrong = {
            {-1, 0, 0}, {16, 0, 0}, {0, -1, 0}, {0, 4, 0}, {0, 0, -1}, {0, 0, 100}, {MIN, 0, 0}, {MAX, 0, 0},
            {0, MIN, 0}, {0, MAX, 0}, {0, 0, MIN}, {0, 0, MAX}, {5, 4, 100}, {32, 0, 0}, {-16, 0, 0}, {5, -4, 0},
            {5, 0, 256}, {5, 256, 0}
        };
        for (int[] w : wrong) {
            check.refused(at("put", w), Webs::busy, web -> web.put(w[0], w[1], w[2]), -1);
            check.refused(at("put without states", w), Webs::none, web -> web.put(w[0], w[1], w[2]), -1);
        }
        check.refused("put without states", Webs::none, web -> web.put(0, 0, 0), -3);
        check.refused("put without states", Webs::none, web -> web.put(15, 3, 99), -3);
        PastWeb web = Webs.parts(1);
        web.undo();
        due("put behind the last undo", web.put(0, 0, 0), -3);
    }

    private static void promise4() {
        check.says(4, "A PART is not there any more, nor its LINKS: how many LINKS went.");
        PastWeb web = Webs.parts(16);
        due("no links", web.gone(15), 0);
        web.link(0, 0, 0, true);
        due("one to itself, once", web.gone(0), 1);
        for (int kind = 0; kind < 3; kind++) {
            for (int other = 1; other < 15; other++) {
                web.link(kind, 7, other, true);
                web.link(kind, other, 7, true);
            }
        }
        due("links", web.look(0, 5), 81);
        web.link(0, 1, 2, true);
        due("all that led from and to it", web.gone(7), 81);
        due("links of others stay", web.look(0, 5), 1);
        web.put(7, 0, 0);
        due("it has none as it comes again", web.part(0, 7, 2) + web.part(0, 1, 2), 4);

        check.says(4, "-1; -3; -4: it is not there");
        for (int w : new int[] {-1, 16, MIN, MAX, 32, -16}) {
            check.refused("gone(" + w + ")", Webs::busy, made -> made.gone(w), -1);
            check.refused("gone(" + w + ") without states", Webs::none, made -> made.gone(w), -1);
        }
        check.refused("gone(0) without states", Webs::none, made -> made.gone(0), -3);
        check.refused("gone(15) without states", Webs::none, made -> made.gone(15), -3);
        check.refused("gone(4)", Webs::busy, made -> made.gone(4), -4);
        check.refused("gone(0), there ahead alone", Webs::full, made -> made.gone(0), -4);
        due("gone(15)", Webs.busy().gone(15), 1);
        web = Webs.parts(1);
        web.gone(0);
        due("gone twice", web.gone(0), -4);
    }

    private static void promise5() {
        check.says(5, "A LINK leads there, or not: 1 if it was otherwise, else 0.");
        for (int kind = 0; kind < 3; kind++) {
            for (int[] ends : new int[][] {{0, 0}, {0, 15}, {15, 0}, {15, 15}}) {
                PastWeb web = Webs.parts(16);
                String call = at("link", kind, ends[0], ends[1]);
                due(call + " away, it was not", web.link(kind, ends[0], ends[1], false), 0);
                due(call, web.link(kind, ends[0], ends[1], true), 1);
                due("links", web.look(0, 5), 1);
                due("where it leads", web.part(0, ends[0], 2 + kind), 1 << ends[1]);
                due(call + " again", web.link(kind, ends[0], ends[1], true), 0);
                due(call + " away", web.link(kind, ends[0], ends[1], false), 1);
                due("links", web.look(0, 5), 0);
            }
        }

        check.says(5, "-1; -3; -4: one is not there");
        int[][] wrong = {
            {-1, 0, 1}, {3, 0, 1}, {0, -1, 1}, {0, 16, 1}, {0, 0, -1}, {0, 0, 16}, {MIN, 0, 1}, {MAX, 0, 1}, {0, MIN, 1},
            {0, MAX, 1}, {0, 0, MIN}, {0, 0, MAX}, {3, 5, 5}, {0, 5, 16}, {0, -1, 5}, {-1, 16, 16}
        };
        for (int[] w : wrong) {
            for (boolean is : new boolean[] {true, false}) {
                check.refused(at("link", w), Webs::busy, web -> web.link(w[0], w[1], w[2], is), -1);
                check.refused(at("link without states", w), Webs::none, web -> web.link(w[0], w[1], w[2], is), -1);
            }
        }
        for (boolean is : new boolean[] {true, false}) {
            check.refused("link without states", Webs::none, web -> web.link(0, 0, 0, is), -3);
            check.refused("link without states", Webs::none, web -> web.link(2, 15, 15, is), -3);
            check.refused("link to one not there", Webs::busy, web -> web.link(0, 0, 5, is), -4);
            check.refused("link from one not there", Webs::busy, web -> web.link(0, 5, 0, is), -4);
            check.refused("link of one not there", Webs::busy, web -> web.link(2, 14, 14, is), -4);
        }
    }

    private static void promise6() {
        check.says(6, "The latest STATE is READ, or not: 1 if it was otherwise, else 0. -3.");
        check.refused("read(true) without states", Webs::none, web -> web.read(true), -3);
        check.refused("read(false) without states", Webs::none, web -> web.read(false), -3);
        PastWeb web = Webs.parts(1);
        due("read(true) at first", web.read(true), 0);
        due("read(false)", web.read(false), 1);
        due("read(false) again", web.read(false), 0);
        due("look", web.look(0, 3), 0);
        due("read(true)", web.read(true), 1);
        due("look", web.look(0, 3), 1);
        web.state(0, -1);
        due("read(false) of the next", web.read(false), 1);
        due("the one ahead", web.look(0, 3), 1);
    }

    private static void promise7() {
        check.says(7, "The latest STATE goes: its number. -3; -4: some TERM is KEPT (on a SHELF does not count).");
        check.refused("undo without states", Webs::none, web -> web.undo(), -3);
        check.refused("undo with two kept", Webs::busy, web -> web.undo(), -4);
        check.refused("undo with six kept", Webs::full, web -> web.undo(), -4);
        check.refused("undo without states, one kept", EdgesOfStatesTest::keptWithoutStates, web -> web.undo(), -3);
        PastWeb web = Webs.busy();
        web.forget();
        due("undo, a term on a shelf", web.undo(), 2);
        due("undo", web.undo(), 1);
        due("undo of the first", web.undo(), 0);
        due("undo of none", web.undo(), -3);
        due("states", web.count(0), 0);
        web = Webs.chain(30, 0, 0);
        for (int i = 29; i >= 0; i--) {
            due("undo", web.undo(), i);
        }
        due("undo of none", web.undo(), -3);
        web = Webs.parts(3);
        web.link(0, 0, 1, true);
        web.read(false);
        web.undo();
        web.state(-1, -1);
        due("nothing of the one that went", web.look(0, 4) + web.look(0, 5) + web.look(0, 6), 0);
        web.state(0, -1);
        web.undo();
        web.state(-1, -1);
        due("none ahead of it, nor before it", web.look(1, 0) + web.look(1, 1) + web.look(1, 2), -4);
        int ahead = web.term(12, web.two(5, 0, 0, 0), 0);
        due("AHEAD", web.span(ahead, 0, 0, 0, false), 0);
        int there = web.of(0, 0, 0);
        web.put(0, 0, 0);
        due("THERE", web.span(there, 0, 0, 0, true) + web.rows(there, true), 3);
        web.undo();
        due("THERE behind undo", web.span(there, 0, 0, 0, true) + web.rows(there, true), 0);
    }

    private static PastWeb keptWithoutStates() {
        PastWeb web = new PastWeb();
        web.of(0, 0, 0);
        web.keepTerm(0);
        return web;
    }

    private static void promise8() {
        check.says(8, "0, 1 the STATES AHEAD (-2: none such)");
        PastWeb web = Webs.net();
        int[][] ahead = {{-2, -2}, {0, -2}, {1, -2}, {1, -2}, {3, 2}, {-2, -2}, {4, 5}};
        for (int state = 0; state < 7; state++) {
            due(at("look", state, 0), web.look(state, 0), ahead[state][0]);
            due(at("look", state, 1), web.look(state, 1), ahead[state][1]);
        }

        check.says(8, "2 STATES BEFORE it, as bits, 3 whether it is READ, 4 PARTS there, as bits, 5 how many LINKS, 6 PARTS "
                + "that CHANGED, as bits. -1.");
        web = Webs.parts(16);
        for (int kind = 0; kind < 3; kind++) {
            for (int from = 0; from < 16; from++) {
                for (int to = 0; to < 8; to++) {
                    web.link(kind, from, to, true);
                }
            }
        }
        int[] due = {-2, -2, 0, 1, 0xffff, 384, 0xffff};
        for (int what = 0; what < 7; what++) {
            due(at("look", 0, what), web.look(0, what), due[what]);
        }
        web = Webs.none();
        web.state(-1, -1);
        int[] empty = {-2, -2, 0, 1, 0, 0, 0};
        for (int what = 0; what < 7; what++) {
            due(at("look at an empty one", 0, what), web.look(0, what), empty[what]);
        }
        for (int w : new int[] {-1, 7, MIN, MAX}) {
            check.refused(at("look", 0, w), Webs::busy, made -> made.look(0, w), -1);
        }
        for (int w : new int[] {-1, 3, 30, MIN, MAX}) {
            for (int what = 0; what < 7; what++) {
                due(at("look", w, what), Webs.busy().look(w, what), -1);
            }
        }
        due("look of 30", Webs.full().look(29, 2), (1 << 29) - 1);
        due("look of 30", Webs.full().look(30, 2), -1);
        due("look of none", Webs.none().look(0, 0), -1);
    }

    private static void promise9() {
        check.says(9, "0 SORT, 1 SHAPE, 2 + k the PARTS to which LINKS of kind k lead, as bits");
        PastWeb web = Webs.parts(16);
        web.put(0, 3, 99);
        for (int to = 0; to < 16; to++) {
            web.link(0, 0, to, true);
            web.link(2, to, 15, true);
        }
        int[] due = {3, 99, 0xffff, 0, 0x8000};
        for (int what = 0; what < 5; what++) {
            due(at("part", 0, 0, what), web.part(0, 0, what), due[what]);
        }
        due(at("part", 0, 15, 4), web.part(0, 15, 4), 0x8000);
        due(at("part", 0, 15, 2), web.part(0, 15, 2), 0);

        check.says(9, "(-2: to none, or it did not go)");
        web.state(0, -1);
        web.gone(3);
        due("to none", web.part(1, 3, 5), -2);
        due("it did not go", web.part(1, 4, 5), -2);
        web.gone(5);
        web.state(1, -1);
        due("not there, and did not go", web.part(2, 3, 5), -2);

        check.says(9, "-1; -4: it is not there (0 to 4)");
        for (int what = 0; what < 5; what++) {
            int asked = what;
            check.refused(at("part", 2, 4, what), Webs::busy, made -> made.part(2, 4, asked), -4);
            check.refused(at("part", 1, 1, what), Webs::busy, made -> made.part(1, 1, asked), -4);
        }
        due("5 of a part that is not there", Webs.busy().part(2, 4, 5), -2);
        due("5 of one that went over", Webs.busy().part(1, 1, 5), 3);
        int[][] wrong = {
            {-1, 0, 0}, {3, 0, 0}, {0, -1, 0}, {0, 16, 0}, {0, 0, -1}, {0, 0, 6}, {MIN, 0, 0}, {MAX, 0, 0}, {0, MIN, 0},
            {0, MAX, 0}, {0, 0, MIN}, {0, 0, MAX}, {2, 4, 6}, {2, 4, -1}, {3, 4, 5}, {2, 16, 5}, {30, 0, 5}
        };
        for (int[] w : wrong) {
            check.refused(at("part", w), Webs::busy, made -> made.part(w[0], w[1], w[2]), -1);
        }
        due("part of none", Webs.none().part(0, 0, 5), -1);
    }

    private static void promise10() {
        check.says(10, "How many ways there are from a STATE to another one, each by STATES directly AHEAD of the next one "
                + "(of one to itself: 1).");
        PastWeb web = Webs.net();
        due("from 0 to 0", Check.roads(web, 0, 0), "1");
        due("from 6 to 6", Check.roads(web, 6, 6), "1");
        due("from 4 to 4, with ways to it", Check.roads(web, 4, 4), "1");
        due("from 0 to 1", Check.roads(web, 0, 1), "1");
        due("from 0 to 6", Check.roads(web, 0, 6), "2");
        due("from 1 to 0: back", Check.roads(web, 1, 0), "0");
        due("from 2 to 3: beside", Check.roads(web, 2, 3), "0");
        due("from 0 to 5: another line", Check.roads(web, 0, 5), "0");
        due("of 30", Check.roads(Webs.pairs(30), 0, 29), "832040");
        due("of 30, the last step", Check.roads(Webs.pairs(30), 28, 29), "1");
        due("of 30, of the last to itself", Check.roads(Webs.pairs(30), 29, 29), "1");

        check.says(10, "IllegalArgumentException: no such STATES");
        for (int[] w : new int[][] {{-1, 0}, {0, -1}, {3, 0}, {0, 3}, {MIN, 0}, {0, MIN}, {MAX, 0}, {0, MAX}, {-1, -1}, {3, 3},
            {30, 30}, {31, 0}, {MIN, MAX}}) {
            due(at("roads", w), Check.roads(Webs.busy(), w[0], w[1]), "throws.IllegalArgumentException");
            web = Webs.busy();
            Check.roads(web, w[0], w[1]);
            due(at("behind roads", w), Told.all(web), Told.all(Webs.busy()));
        }
        due("roads of none", Check.roads(Webs.none(), 0, 0), "throws.IllegalArgumentException");
        due("roads(30, 30) of 30", Check.roads(Webs.full(), 30, 30), "throws.IllegalArgumentException");
    }

    private static void promise11() {
        check.says(11, "COMMON to two STATES are those that are the first one, or BEFORE it, and also the other one, or BEFORE "
                + "that");
        PastWeb web = Webs.net();
        due("of one", web.meet(0, 0), 1);
        due("of one with some before it", web.meet(6, 6), 64);
        due("one before the other", web.meet(1, 6), 2);
        due("the other way", web.meet(6, 1), 2);
        due("none in common", web.meet(5, 4), 0);
        due("none in common, the other way", web.meet(0, 5), 0);
        due("the first of 30", Webs.full().meet(0, 29), 1);
        due("the last of 30", Webs.full().meet(29, 29), 1 << 29);

        check.says(11, "those of them that are BEFORE no other of them, as bits. -1.");
        due("the later one of two", web.meet(2, 3), 2);
        web = Webs.none();
        web.state(-1, -1);
        web.state(-1, -1);
        web.state(0, 1);
        web.state(1, 0);
        due("two of them", web.meet(2, 3), 3);
        web = Webs.none();
        web.state(-1, -1);
        web.state(0, -1);
        web.state(-1, -1);
        web.state(1, 2);
        web.state(2, 1);
        due("the first is before one of them, the last is not", web.meet(3, 4), 6);
        for (int[] w : new int[][] {{-1, 0}, {0, -1}, {3, 0}, {0, 3}, {MIN, 0}, {0, MIN}, {MAX, 0}, {0, MAX}, {-1, -1}, {3, 3}}) {
            check.refused(at("meet", w), Webs::busy, made -> made.meet(w[0], w[1]), -1);
        }
        due("meet of none", Webs.none().meet(0, 0), -1);
        due("meet(29, 30) of 30", Webs.full().meet(29, 30), -1);
    }

    private static void promise12() {
        check.says(12, "STATES on ways from one to another one (both with them), as bits; 0: there is none. -1.");
        PastWeb web = Webs.net();
        due("one step", web.between(0, 1), 3);
        due("two ways", web.between(1, 4), 0x1e);
        due("not those beside the ways", web.between(1, 3), 10);
        due("not those of another line", web.between(0, 6), 0x5f);
        due("of one to itself, as roads has a way there", web.between(4, 4), 16);
        due("none: back", web.between(4, 1), 0);
        due("none: beside", web.between(2, 3), 0);
        due("none: another line", web.between(0, 5), 0);
        due("all of 30", Webs.full().between(0, 29), (1 << 30) - 1);
        for (int[] w : new int[][] {{-1, 0}, {0, -1}, {3, 0}, {0, 3}, {MIN, 0}, {0, MIN}, {MAX, 0}, {0, MAX}, {-1, -1}, {3, 3}}) {
            check.refused(at("between", w), Webs::busy, made -> made.between(w[0], w[1]), -1);
        }
        due("between of none", Webs.none().between(0, 0), -1);
        due("between(0, 30) of 30", Webs.full().between(0, 30), -1);
    }

    private static void promise13() {
        check.says(13, "In how many STATES both PARTS (they may be one) CHANGED (what = 0), the first one alone (1), the second "
                + "one alone (2). -1.");
        for (int what = 0; what < 3; what++) {
            due("of no states", Webs.none().together(0, 15, what), 0);
            due("of one part", Webs.parts(1).together(0, 0, what), what == 0 ? 1 : 0);
            due("of one part that never changed", Webs.parts(1).together(1, 1, what), 0);
        }
        PastWeb web = Webs.none();
        for (int i = 0; i < 30; i++) {
            web.state(i - 1, -1);
            web.put(0, i % 2, 0);
            if (i % 3 == 0) {
                web.put(15, 0, i);
            }
        }
        due("both", web.together(0, 15, 0), 10);
        due("the first alone", web.together(0, 15, 1), 20);
        due("the second alone", web.together(0, 15, 2), 0);
        due("the first alone, the other way", web.together(15, 0, 1), 0);
        due("the second alone, the other way", web.together(15, 0, 2), 20);
        web.read(false);
        due("none changed in one not read", web.together(0, 0, 0), 29);
        int[][] wrong = {
            {-1, 0, 0}, {16, 0, 0}, {0, -1, 0}, {0, 16, 0}, {0, 0, -1}, {0, 0, 3}, {MIN, 0, 0}, {MAX, 0, 0}, {0, MIN, 0},
            {0, MAX, 0}, {0, 0, MIN}, {0, 0, MAX}
        };
        for (int[] w : wrong) {
            check.refused(at("together", w), Webs::busy, made -> made.together(w[0], w[1], w[2]), -1);
            due(at("together of no states", w), Webs.none().together(w[0], w[1], w[2]), -1);
        }
    }

    public static void main(String[] args) {
        numbersOfStates();
        statesAsBits();
        statesBefore();
        partsOfStates();
        whatAStateHasAsItComes();
        latestChanges();
        whatChanged();
        whatWentOver();
        promise1();
        promise2();
        promise3();
        promise4();
        promise5();
        promise6();
        promise7();
        promise8();
        promise9();
        promise10();
        promise11();
        promise12();
        promise13();
        check.saidPromises(1, 13);
        check.end("EdgesOfStatesTest");
    }
}

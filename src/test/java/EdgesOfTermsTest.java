/** The sentences about terms that name an edge (Terms, promises 14 to 22), each with a test of its own. */
public final class EdgesOfTermsTest {
    private static final int MIN = Integer.MIN_VALUE;
    private static final int MAX = Integer.MAX_VALUE;
    private static final int ALL = (1 << 30) - 1;
    private static final Check check = new Check();

    private static void due(String call, long got, long want) {
        check.due(call, got, want);
    }

    private static String at(String call, int... numbers) {
        return call + java.util.Arrays.toString(numbers);
    }

    private static int sure(PastWeb web, int term) {
        return web.span(term, 0, 0, 0, false);
    }

    private static int may(PastWeb web, int term) {
        return web.span(term, 0, 0, 0, true);
    }

    // ---- Terms

    private static void numbersOfTerms() {
        check.says(0, "TERMS 0 .. 59 as they come.");
        PastWeb web = Webs.none();
        for (int i = 0; i < 20; i++) {
            due("of", web.of(0, 0, 0), 3 * i);
            due("two", web.two(5, 0, 0, 0), 3 * i + 1);
            due("term", web.term(6, 0, 0), 3 * i + 2);
        }
        due("told(59, 0)", web.told(59, 0), 6);
        due("told(60, 0)", web.told(60, 0), -1);
        due("of of 60", web.of(0, 0, 0), -2);
        due("two of 60", web.two(5, 0, 0, 0), -2);
        due("term of 60", web.term(6, 0, 0), -2);

        check.says(0, "VARIABLES: 0, 1, 2. What a TERM is of: a VARIABLE, or a PART (told as 10 and its number).");
        for (int u : new int[] {MIN, -1, 0, 1, 2, 3, 4, 8, 9, 10, 11, 24, 25, 26, 27, MAX}) {
            boolean right = 0 <= u && u <= 2 || 10 <= u && u <= 25;
            due(at("of", 0, u, 0), Webs.none().of(0, u, 0), right ? 0 : -1);
            due(at("of", 1, u, 0), Webs.none().of(1, u, 0), right ? 0 : -1);
            due(at("of", 2, u, 0), Webs.none().of(2, u, 0), right ? 0 : -1);
            for (int kind = 3; kind < 6; kind++) {
                due(at("two", kind, 0, u, 0), Webs.none().two(kind, 0, u, 0), right ? 0 : -1);
                due(at("two", kind, 0, 0, u), Webs.none().two(kind, 0, 0, u), right ? 0 : -1);
            }
        }
        web = Webs.parts(0);
        web.put(15, 0, 0);
        due("25 is part 15", sure(web, web.of(0, 25, 0)), 1);
        due("10 is part 0", sure(web, web.of(0, 10, 0)), 0);
        due("0 is what stands for it", web.span(web.of(0, 0, 0), 15, 0, 0, false), 1);
        due("1 is what stands for it", web.span(web.of(0, 1, 0), 0, 15, 0, false), 1);
        due("2 is what stands for it", web.span(web.of(0, 2, 0), 0, 0, 15, false), 1);
        due("1 is not 2", web.span(web.of(0, 1, 0), 0, 0, 15, false), 0);
        due("10 is part 0, whatever stands for 2", web.span(web.two(5, 0, 10, 2), 0, 0, 15, false), 0);
        due("25 is part 15, whatever stands for 0", web.span(web.two(5, 0, 25, 0), 0, 15, 15, false), 0);
    }

    private static void termsOfOnePart() {
        check.says(0, "0 THERE u: the PART is there.");
        PastWeb web = Webs.chain(3, 0b010, 0);
        due("there, then not", sure(web, web.of(0, 0, 0)), 0b010);
        due("of no states", sure(noStates(), 0), 0);

        check.says(0, "1 SORT u n; 2 SHAPE u n: it is there, with that SORT, SHAPE.");
        web = Webs.none();
        for (int i = 0; i < 4; i++) {
            web.state(i - 1, -1);
            web.put(0, i, 33 * i);
        }
        web.state(3, -1);
        web.gone(0);
        for (int i = 0; i < 4; i++) {
            due("sort " + i, sure(web, web.of(1, 0, i)), 1 << i);
            due("shape " + 33 * i, sure(web, web.of(2, 0, 33 * i)), 1 << i);
        }
        due("a shape it never had", sure(web, web.of(2, 0, 98)), 0);
        due("sort 0 of one that never was", web.span(0, 5, 0, 0, false), 0);
        due("shape 0 of one that never was", web.span(1, 5, 0, 0, false), 0);
        web = Webs.chain(30, ALL, 0);
        due("THERE of 30", sure(web, web.of(0, 10, 0)), ALL);
        due("SORT of 30", sure(web, web.of(1, 10, 0)), ALL);
        due("SHAPE of 30", sure(web, web.of(2, 10, 0)), ALL);
    }

    private static PastWeb noStates() {
        PastWeb web = new PastWeb();
        web.of(0, 0, 0);
        return web;
    }

    private static void termsOfTwoParts() {
        check.says(0, "3 LINK k u w: such a LINK leads from the first to the second.");
        PastWeb web = Webs.parts(16);
        web.link(1, 0, 15, true);
        web.link(1, 15, 15, true);
        web.two(3, 1, 0, 1);
        due("from 0 to 15", web.span(0, 0, 15, 0, false), 1);
        due("from 15 to 0", web.span(0, 15, 0, 0, false), 0);
        due("to itself", web.span(0, 15, 15, 0, false), 1);
        due("not to itself", web.span(0, 0, 0, 0, false), 0);
        due("of other kinds", sure(web, web.two(3, 0, 10, 25)) + sure(web, web.two(3, 2, 10, 25)), 0);
        due("of this kind", sure(web, web.two(3, 1, 10, 25)), 1);

        check.says(0, "4 REACH k u w: by one such LINK, or more, one behind the other.");
        web = Webs.parts(16);
        int reach = web.two(4, 2, 0, 1);
        due("by none, itself", web.span(reach, 0, 0, 0, false), 0);
        for (int part = 0; part < 15; part++) {
            web.link(2, part, part + 1, true);
        }
        due("by one", web.span(reach, 0, 1, 0, false), 1);
        due("by two", web.span(reach, 13, 15, 0, false), 1);
        due("by fifteen", web.span(reach, 0, 15, 0, false), 1);
        due("back", web.span(reach, 15, 0, 0, false), 0);
        due("rows", web.rows(reach, false), 120);
        web.link(2, 15, 0, true);
        due("by sixteen, itself", web.span(reach, 0, 0, 0, false), 1);
        due("rows of a ring", web.rows(reach, false), 256);
        web.link(2, 7, 8, false);
        web.link(0, 7, 8, true);
        due("not over another kind", web.span(reach, 7, 8, 0, false), 0);
        due("the other way round the ring", web.span(reach, 8, 7, 0, false), 1);
        due("not over two states", overTwoStates(), 0);

        check.says(0, "5 SAME u w: they are one PART (in each STATE).");
        web = Webs.chain(3, 0b010, 0b100);
        int same = web.two(5, 0, 0, 1);
        due("one, there or not, read or not", web.span(same, 0, 0, 0, false), 7);
        due("the last one", web.span(same, 15, 15, 0, false), 7);
        due("two", web.span(same, 0, 15, 0, true), 0);
        due("a variable and a part", web.span(web.two(5, 0, 25, 1), 0, 15, 0, false), 7);
        due("two parts", may(web, web.two(5, 0, 10, 25)), 0);
        due("of no states", sameOfNone(), 0);
    }

    private static int overTwoStates() {
        PastWeb web = Webs.parts(3);
        web.link(0, 0, 1, true);
        web.state(0, -1);
        web.link(0, 0, 1, false);
        web.link(0, 1, 2, true);
        return web.span(web.two(4, 0, 0, 1), 0, 2, 0, false);
    }

    private static int sameOfNone() {
        PastWeb web = Webs.none();
        return web.span(web.two(5, 0, 0, 0), 0, 0, 0, true);
    }

    private static void termsOfTerms() {
        check.says(0, "6 NOT a; 7 BOTH a b; 8 EITHER a b (TERMS).");
        PastWeb web = Webs.none();
        for (int i = 0; i < 4; i++) {
            web.state(-1, -1);
            web.put(i % 2, 0, 0);
            web.put(2 + i / 2, 0, 0);
        }
        int one = web.of(0, 10, 0);
        int two = web.of(0, 12, 0);
        due("one", sure(web, one), 0b0101);
        due("two", sure(web, two), 0b0011);
        due("NOT", sure(web, web.term(6, one, 0)), 0b1010);
        due("BOTH", sure(web, web.term(7, one, two)), 0b0001);
        due("EITHER", sure(web, web.term(8, one, two)), 0b0111);
        due("BOTH of one twice", sure(web, web.term(7, one, one)), 0b0101);
        due("EITHER of one twice", sure(web, web.term(8, one, one)), 0b0101);
        due("NOT NOT", sure(web, web.term(6, 2, 0)), 0b0101);
        due("NOT of what never holds", sure(web, web.term(6, web.of(0, 25, 0), 0)), 0b1111);
    }

    private static void timedTerms() {
        check.says(0, "9 EVER a: a holds in the STATE, or in one BEFORE it.");
        due("in the first", timed(9, 5, 0b00001), 0b11111);
        due("in the last", timed(9, 5, 0b10000), 0b10000);
        due("in none", timed(9, 5, 0), 0);
        due("of 30", timed(9, 30, 1), ALL);
        due("beside it", overNet(9, 0b0000100), 0b1010100);

        check.says(0, "10 ALWAYS a: in the STATE and in all BEFORE it.");
        due("none before it", timed(10, 5, 0b00001), 0b00001);
        due("not in the first", timed(10, 5, 0b11110), 0);
        due("not in one", timed(10, 5, 0b11011), 0b00011);
        due("in all of 30", timed(10, 30, ALL), ALL);
        due("over two lines", overNet(10, 0b1111011), 0b0101011);

        check.says(0, "11 FIRST a: a holds in it, and in none BEFORE it.");
        due("none before it", timed(11, 5, 0b11111), 0b00001);
        due("in the last", timed(11, 5, 0b10000), 0b10000);
        due("again", timed(11, 5, 0b10100), 0b00100);
        due("in the last of 30", timed(11, 30, 1 << 29), 1 << 29);
        due("in two lines", overNet(11, 0b1111100), 0b0101100);

        check.says(0, "12 AHEAD a: in some STATE directly AHEAD.");
        due("none ahead of the first", timed(12, 5, 0b11111), 0b11110);
        due("directly ahead alone", timed(12, 5, 0b00100), 0b01000);
        due("not in itself", timed(12, 5, 0b10000), 0);
        due("of 30", timed(12, 30, ALL), ALL - 1);
        due("the second ahead", overNet(12, 0b0000100), 0b0010000);
        due("the first ahead", overNet(12, 0b0001000), 0b0010000);
        since();
    }

    /** The sure span of that kind's term of THERE 0, in a chain of states with part 0 in those of a set. */
    private static int timed(int kind, int states, int there) {
        PastWeb web = Webs.chain(states, there, 0);
        return sure(web, web.term(kind, web.of(0, 0, 0), 0));
    }

    /** The same, in the net of seven. */
    private static int overNet(int kind, int there) {
        PastWeb web = netWith(there, 0);
        return sure(web, web.term(kind, web.of(0, 10, 0), 0));
    }

    /** The net of seven states, with parts 0 and 1 in those of two sets. */
    private static PastWeb netWith(int zero, int one) {
        PastWeb web = new PastWeb();
        int[][] ahead = {{-1, -1}, {0, -1}, {1, -1}, {1, -1}, {3, 2}, {-1, -1}, {4, 5}};
        for (int i = 0; i < ahead.length; i++) {
            web.state(ahead[i][0], ahead[i][1]);
            web.put(0, 0, 0);
            web.put(1, 0, 0);
            if ((zero >> i & 1) == 0) {
                web.gone(0);
            }
            if ((one >> i & 1) == 0) {
                web.gone(1);
            }
        }
        return web;
    }

    private static int sinceOverNet(int lasting, int begun) {
        PastWeb web = netWith(lasting, begun);
        return sure(web, web.term(13, web.of(0, 10, 0), web.of(0, 11, 0)));
    }

    private static void since() {
        check.says(0, "13 SINCE a b: b holds in it; or a does, and there are STATES directly AHEAD, and SINCE a b holds in all "
                + "of these.");
        due("b holds in it, a does not", sinceOverNet(0, 0b0000001), 0b0000001);
        due("none ahead", sinceOverNet(0b1111111, 0), 0);
        due("begun in the first line", sinceOverNet(0b1111111, 0b0000001), 0b0011111);
        due("begun in both lines", sinceOverNet(0b1111111, 0b0100001), 0b1111111);
        due("begun in one of two ahead", sinceOverNet(0b1111111, 0b0000100), 0b0000100);
        due("begun in both ahead", sinceOverNet(0b1111111, 0b0001100), 0b0011100);
        due("a broken off in one of two", sinceOverNet(0b1111011, 0b0000001), 0b0001011);
        due("begun again", sinceOverNet(0b0010000, 0b0001101), 0b0011101);
        due("of 30", sinceOf30(), ALL);
    }

    private static int sinceOf30() {
        PastWeb web = Webs.chain(30, ALL, 0);
        int there = web.of(0, 0, 0);
        return sure(web, web.term(13, there, web.term(11, there, 0)));
    }

    private static void some() {
        check.says(0, "14 SOME v a: for some PART (of all 16 names) in place of VARIABLE v.");
        for (int part : new int[] {0, 7, 15}) {
            PastWeb web = Webs.parts(0);
            web.put(part, 0, 0);
            web.state(-1, -1);
            for (int v = 0; v < 3; v++) {
                int there = web.of(0, v, 0);
                due(at("part, variable", part, v), sure(web, web.term(14, v, there)), 1);
                due("another variable", web.span(web.term(14, (v + 1) % 3, there), part, part, part, false), 1);
                due("another variable", web.span(web.count(1) - 1, 5, 5, 5, false), 0);
            }
            int lone = web.term(6, web.of(0, 0, 0), 0);
            due("of all 16 names: one that is not there", sure(web, web.term(14, 0, lone)), 3);
        }
        PastWeb web = Webs.parts(16);
        due("none", sure(web, web.term(14, 0, web.term(6, web.of(0, 0, 0), 0))), 0);
        web.link(0, 0, 1, true);
        int leads = web.term(14, 0, web.two(3, 0, 0, 1));
        int isLed = web.term(14, 1, web.two(3, 0, 2, 1));
        for (int part = 0; part < 16; part++) {
            due("some leads to " + part, web.span(leads, 0, part, 0, false), part == 1 ? 1 : 0);
            due("some is led to from " + part, web.span(isLed, 0, 0, part, false), part == 0 ? 1 : 0);
        }
        int leadsToo = web.term(14, 2, web.two(3, 0, 2, 1));
        int leadsTo1 = web.term(14, 0, web.two(3, 0, 0, 11));
        for (int p = 0; p < 16; p++) {
            due("whatever stands for 0", web.span(leads, p, 1, 0, false), 1);
            due("whatever stands for 0, without others", web.span(leadsTo1, p, 0, 0, false), 1);
            due("whatever stands for 1", web.span(isLed, 0, p, 0, false), 1);
            due("whatever stands for 2", web.span(leadsToo, 0, 1, p, false), 1);
        }

        check.says(0, "FREE are VARIABLES that stand in a TERM, but not where SOME v has them.");
        web = Webs.none();
        int[] two = {web.two(3, 0, 0, 1), web.two(4, 0, 2, 10), web.two(5, 0, 11, 12), web.of(0, 2, 0)};
        due("0 and 1", web.told(two[0], 1), 3);
        due("2", web.told(two[1], 1), 4);
        due("none", web.told(two[2], 1), 0);
        int all = web.term(13, two[0], two[1]);
        due("of both terms", web.told(all, 1), 7);
        for (int v = 0; v < 3; v++) {
            due("but that of SOME", web.told(web.term(14, v, all), 1), 7 & ~(1 << v));
        }
        int least = web.term(14, 0, web.term(14, 1, web.term(14, 2, all)));
        due("none is left", web.told(least, 1), 0);
        due("where SOME does not have them", web.told(web.term(7, web.term(14, 2, two[3]), two[3]), 1), 4);
        due("of SOME that has none", web.told(web.term(14, 0, two[3]), 1), 4);
    }

    private static void costsAndSpans() {
        check.says(0, "COST of a TERM: 1, and COSTS of those it is of (of one twice: twice); SOME: 1, and 16 times that of a.");
        PastWeb web = Webs.none();
        int one = web.two(3, 0, 0, 1);
        due("LINK", web.told(one, 2), 1);
        int not = web.term(6, one, 0);
        due("NOT", web.told(not, 2), 2);
        for (int kind : new int[] {9, 10, 11, 12}) {
            due("of one", web.told(web.term(kind, not, 0), 2), 3);
        }
        for (int kind : new int[] {7, 8, 13}) {
            due("of two", web.told(web.term(kind, one, not), 2), 4);
            due("of one twice", web.told(web.term(kind, not, not), 2), 5);
        }
        due("SOME", web.told(web.term(14, 0, not), 2), 33);
        due("SOME of a variable that does not stand there", web.told(web.term(14, 2, not), 2), 33);

        check.says(0, "the STATES in which it is SURE; its WIDE SPAN: in which it MAY hold");
        web = Webs.chain(30, 0x15555555, 0x0f0f0f0f);
        int there = web.of(0, 0, 0);
        due("SPAN", sure(web, there), 0x15555555 & ~0x0f0f0f0f);
        due("WIDE SPAN", may(web, there), 0x15555555 | 0x0f0f0f0f);
        due("SPAN of no states", sure(noStates(), 0), 0);
        due("WIDE SPAN of no states", may(noStates(), 0), 0);

        check.says(0, "LINES: STATES of a set with none of the set BEFORE them.");
        web = Webs.net();
        due("of none", web.lines(0), 0);
        due("of all", web.lines(127), 0b0100001);
        due("of one", web.lines(64), 64);
        due("of two beside each other", web.lines(12), 12);
        due("before them, though not ahead", web.lines(0b0010001), 1);
    }

    private static void sureAndMay() {
        check.says(0, "in a STATE that isn't READ TERMS of KINDS 0 to 4 MAY hold, and are not SURE.");
        PastWeb web = Webs.parts(2);
        web.link(0, 0, 1, true);
        web.state(0, -1);
        web.read(false);
        int[] holds = {web.of(0, 10, 0), web.of(1, 10, 0), web.of(2, 10, 0), web.two(3, 0, 10, 11), web.two(4, 0, 10, 11)};
        int[] not = {web.of(0, 12, 0), web.of(1, 10, 3), web.of(2, 10, 99), web.two(3, 2, 10, 11), web.two(4, 0, 11, 10)};
        for (int kind = 0; kind < 5; kind++) {
            due("kind " + kind + ", sure", sure(web, holds[kind]), 1);
            due("kind " + kind + ", may", may(web, holds[kind]), 3);
            due("kind " + kind + " that does not hold, sure", sure(web, not[kind]), 0);
            due("kind " + kind + " that does not hold, may", may(web, not[kind]), 2);
        }

        check.says(0, "In others: both, if they hold; SAME always so.");
        web.read(true);
        for (int kind = 0; kind < 5; kind++) {
            due("kind " + kind + ", sure", sure(web, holds[kind]), 3);
            due("kind " + kind + ", may", may(web, holds[kind]), 3);
            due("kind " + kind + " that does not hold, may", may(web, not[kind]), 0);
        }
        web.read(false);
        due("SAME, sure", sure(web, web.two(5, 0, 10, 10)), 3);
        due("SAME, may", may(web, web.two(5, 0, 10, 10)), 3);
        due("not SAME, sure", sure(web, web.two(5, 0, 10, 11)), 0);
        due("not SAME, may", may(web, web.two(5, 0, 10, 11)), 0);

        check.says(0, "NOT: SURE where a MAY not, MAY where a is not SURE.");
        due("NOT of one that holds, sure", sure(web, web.term(6, holds[0], 0)), 0);
        due("NOT of one that holds, may", may(web, web.term(6, holds[0], 0)), 2);
        due("NOT of one that does not, sure", sure(web, web.term(6, not[0], 0)), 1);
        due("NOT of one that does not, may", may(web, web.term(6, not[0], 0)), 3);
        due("NOT SAME, sure", sure(web, web.term(6, web.two(5, 0, 10, 11), 0)), 3);
        due("NOT SAME, may", may(web, web.term(6, web.two(5, 0, 10, 10), 0)), 0);
        firstAndOthers();
    }

    private static void firstAndOthers() {
        check.says(0, "FIRST: SURE, if a is SURE there, and MAY hold in none BEFORE it; MAY, if a MAY there, and is SURE in none "
                + "BEFORE it.");
        due("there once, read", spans(11, 4, 0b0100, 0), both(0b0100, 0b0100));
        due("it may have been before", spans(11, 4, 0b0100, 0b0010), both(0, 0b0110));
        due("it may have been in the first", spans(11, 4, 0b0100, 0b0001), both(0, 0b0101));
        due("not read behind it", spans(11, 4, 0b0100, 0b1000), both(0b0100, 0b0100));
        due("not read itself", spans(11, 4, 0b1111, 0b0001), both(0, 0b0011));
        due("none is read", spans(11, 4, 0b0100, 0b1111), both(0, 0b1111));

        check.says(0, "All others: SURE by what is SURE, MAY by what MAY.");
        due("EVER", spans(9, 5, 0b01000, 0b00010), both(0b11000, 0b11110));
        due("ALWAYS", spans(10, 5, 0b11011, 0b00010), both(0b00001, 0b00011));
        due("ALWAYS, not read where it is not there", spans(10, 5, 0b11011, 0b00100), both(0b00011, 0b11111));
        due("AHEAD", spans(12, 5, 0b00101, 0b00010), both(0b01010, 0b01110));
        PastWeb web = Webs.chain(4, 0b0101, 0b0100);
        int there = web.of(0, 0, 0);
        int not = web.term(6, there, 0);
        due("BOTH of it and not, sure", sure(web, web.term(7, there, not)), 0);
        due("BOTH of it and not, may", may(web, web.term(7, there, not)), 0b0100);
        due("EITHER of it or not, sure", sure(web, web.term(8, there, not)), 0b1011);
        due("EITHER of it or not, may", may(web, web.term(8, there, not)), 0b1111);
        due("SINCE, sure", sure(web, web.term(13, not, there)), 0b0011);
        due("SINCE, may", may(web, web.term(13, not, there)), 0b1111);
        int never = web.two(5, 0, 10, 11);
        due("SINCE by what b may", may(web, web.term(13, never, there)), 0b0101);
        due("SOME, sure", sure(web, web.term(14, 0, there)), 0b0001);
        due("SOME, may", may(web, web.term(14, 0, there)), 0b0101);
        web = Webs.chain(3, 0, 0b010);
        int begin = web.term(6, web.term(12, web.two(5, 0, 0, 0), 0), 0);
        int since = web.term(13, web.of(0, 0, 0), begin);
        due("SINCE by what a may", may(web, since), 0b011);
        due("SINCE by what a is SURE", sure(web, since), 0b001);
    }

    private static long both(int sure, int may) {
        return sure * 1000L + may;
    }

    private static long spans(int kind, int states, int there, int unread) {
        PastWeb web = Webs.chain(states, there, unread);
        int term = web.term(kind, web.of(0, 0, 0), 0);
        return both(sure(web, term), may(web, term));
    }

    private static void termsThatHaveRows() {
        check.says(0, "ROWS of a TERM that has VARIABLES 0, 1 FREE at most, and a COST of 600 at most");
        PastWeb web = Webs.parts(1);
        due("of none", web.rows(web.two(5, 0, 10, 10), false), 1);
        due("of 0", web.rows(web.two(5, 0, 0, 10), false), 1);
        due("of 1", web.rows(web.two(5, 0, 10, 1), false), 1);
        due("of 0 and 1", web.rows(web.two(5, 0, 0, 1), false), 16);
        due("of 2", web.rows(web.two(5, 0, 10, 2), false), -4);
        due("of 0 and 2", web.rows(web.two(5, 0, 0, 2), false), -4);
        due("of 2 and 1", web.rows(web.two(5, 0, 2, 1), false), -4);
        int dear = Webs.costing(web, 599, 1);
        due("of COST 599", web.rows(dear, false), 15);
        due("of COST 600", web.rows(web.term(6, dear, 0), false), 1);
        due("of COST 601", web.rows(web.term(8, dear, 0), false), -5);
    }

    private static void rowsOfTerms() {
        check.says(0, "PARTS (of all 16 names) in place of 0 and 1 (0 where one isn't FREE), by numbers, 0's first, told as 16 * "
                + "that of 0 and that of 1");
        PastWeb web = Webs.parts(16);
        int none = web.of(0, 25, 0);
        int zero = web.of(0, 0, 0);
        int one = web.of(0, 1, 0);
        int two = web.two(5, 0, 0, 1);
        int all = web.term(8, two, web.term(6, two, 0));
        due("rows without variables", web.rows(none, false), 1);
        due("row without variables", web.row(none, 0, false), 0);
        due("rows of 0", web.rows(zero, false), 16);
        due("rows of 1", web.rows(one, false), 16);
        due("rows of both", web.rows(all, false), 256);
        for (int i = 0; i < 16; i++) {
            due("row of 0", web.row(zero, i, false), 16 * i);
            due("row of 1", web.row(one, i, false), i);
            due("row of SAME", web.row(two, i, false), 17 * i);
            due("row of both", web.row(all, 17 * i, false), 17 * i);
        }
        int both = web.term(7, web.two(5, 0, 0, 25), web.two(5, 0, 1, 10));
        due("16 * that of 0", web.row(both, 0, false), 240);
        both = web.term(7, web.two(5, 0, 1, 25), web.two(5, 0, 0, 10));
        due("and that of 1", web.row(both, 0, false), 15);

        check.says(0, "for which the SPAN is not empty; WIDE ROWS likewise");
        web.gone(15);
        web.gone(0);
        due("rows", web.rows(zero, false), 14);
        due("the first row", web.row(zero, 0, false), 16);
        due("the last row", web.row(zero, 13, false), 224);
        due("behind the last", web.row(zero, 14, false), -3);
        due("no rows", web.rows(none, false), 0);
        due("no first row", web.row(none, 0, false), -3);
        web.read(false);
        due("rows, none is sure", web.rows(zero, false), 0);
        due("wide rows", web.rows(zero, true), 16);
        due("wide rows of SAME", web.rows(two, true), 16);
        due("of no states", noStates().rows(0, false) + noStates().rows(0, true), 0);
        due("a row of no states", noStates().row(0, 0, true), -3);
    }

    // ---- promises

    private static void promise14() {
        check.says(14, "A TERM of KINDS 0 (n any), 1, 2: its number. -1; -2: there are 60.");
        int[][] right = {
            {0, 0, 0}, {0, 0, MIN}, {0, 0, MAX}, {0, 2, -1}, {0, 25, 100}, {1, 0, 0}, {1, 2, 3}, {1, 10, 3}, {2, 0, 0},
            {2, 25, 99}
        };
        for (int[] r : right) {
            PastWeb web = Webs.busy();
            due(at("of", r), web.of(r[0], r[1], r[2]), Webs.BUSY_TERMS);
            due("its kind", web.told(Webs.BUSY_TERMS, 0), r[0]);
            check.refused(at("of of 60", r), Webs::full, made -> made.of(r[0], r[1], r[2]), -2);
        }
        int[][] wrong = {
            {-1, 0, 0}, {3, 0, 0}, {5, 0, 0}, {6, 0, 0}, {MIN, 0, 0}, {MAX, 0, 0}, {0, -1, 0}, {0, 3, 0}, {0, 9, 0}, {0, 26, 0},
            {0, MIN, 0}, {0, MAX, 0}, {1, 3, 0}, {2, 26, 0}, {1, 0, -1}, {1, 0, 4}, {1, 0, MIN}, {1, 0, MAX}, {2, 0, -1},
            {2, 0, 100}, {2, 0, MIN}, {2, 0, MAX}, {1, 3, 4}, {2, 9, 100}
        };
        for (int[] w : wrong) {
            check.refused(at("of", w), Webs::busy, made -> made.of(w[0], w[1], w[2]), -1);
            due(at("of of 60", w), Webs.full().of(w[0], w[1], w[2]), -1);
        }
    }

    private static void promise15() {
        check.says(15, "A TERM of KIND 3, 4 (k: kind of LINK), 5 (k any): its number. -1; -2.");
        int[][] right = {
            {3, 0, 0, 0}, {3, 2, 2, 25}, {4, 0, 10, 10}, {4, 2, 25, 2}, {5, 0, 0, 1}, {5, MIN, 25, 10}, {5, MAX, 2, 2},
            {5, -1, 1, 0}, {5, 3, 11, 2}
        };
        for (int[] r : right) {
            PastWeb web = Webs.busy();
            due(at("two", r), web.two(r[0], r[1], r[2], r[3]), Webs.BUSY_TERMS);
            due("its kind", web.told(Webs.BUSY_TERMS, 0), r[0]);
            check.refused(at("two of 60", r), Webs::full, made -> made.two(r[0], r[1], r[2], r[3]), -2);
        }
        int[][] wrong = {
            {2, 0, 0, 0}, {6, 0, 0, 0}, {0, 0, 0, 0}, {-1, 0, 0, 0}, {MIN, 0, 0, 0}, {MAX, 0, 0, 0}, {3, -1, 0, 0},
            {3, 3, 0, 0}, {4, -1, 0, 0}, {4, 3, 0, 0}, {3, MIN, 0, 0}, {4, MAX, 0, 0}, {3, 0, -1, 0}, {3, 0, 3, 0},
            {3, 0, 9, 0}, {3, 0, 26, 0}, {4, 0, 0, -1}, {4, 0, 0, 3}, {4, 0, 0, 9}, {4, 0, 0, 26}, {5, 0, 3, 0}, {5, 0, 0, 3},
            {5, 0, MIN, 0}, {5, 0, 0, MIN}, {5, 0, MAX, 0}, {5, 0, 0, MAX}, {5, 0, 26, 26}
        };
        for (int[] w : wrong) {
            check.refused(at("two", w), Webs::busy, made -> made.two(w[0], w[1], w[2], w[3]), -1);
            due(at("two of 60", w), Webs.full().two(w[0], w[1], w[2], w[3]), -1);
        }
    }

    private static void promise16() {
        check.says(16, "A TERM of KINDS 6, 9 to 12 (b any), 7, 8, 13 of TERMS, 14 of VARIABLE a and TERM b: its number. -1; -2;");
        int last = Webs.BUSY_TERMS - 1;
        int[][] right = {
            {6, 0, 0}, {6, last, MIN}, {9, 0, MAX}, {10, last, -1}, {11, 0, 60}, {12, last, MAX}, {7, 0, last}, {8, last, 0},
            {13, last, last}, {14, 0, 0}, {14, 2, last}
        };
        for (int[] r : right) {
            PastWeb web = Webs.busy();
            due(at("term", r), web.term(r[0], r[1], r[2]), Webs.BUSY_TERMS);
            due("its kind", web.told(Webs.BUSY_TERMS, 0), r[0]);
            check.refused(at("term of 60", r), Webs::full, made -> made.term(r[0], r[1], r[2]), -2);
        }
        for (int kind : new int[] {5, 0, -1, 3, 15, 16, MIN, MAX}) {
            check.refused(at("term", kind, 0, 0), Webs::busy, made -> made.term(kind, 0, 0), -1);
        }
        for (int kind = 6; kind < 14; kind++) {
            for (int w : new int[] {-1, Webs.BUSY_TERMS, 60, MIN, MAX}) {
                int of = kind;
                check.refused(at("term", kind, w, 0), Webs::busy, made -> made.term(of, w, 0), -1);
                if (kind == 7 || kind == 8 || kind == 13) {
                    check.refused(at("term", kind, 0, w), Webs::busy, made -> made.term(of, 0, w), -1);
                }
            }
        }
        for (int[] w : new int[][] {{-1, 0}, {3, 0}, {10, 0}, {MIN, 0}, {MAX, 0}, {0, -1}, {0, Webs.BUSY_TERMS}, {2, MIN},
            {2, MAX}, {3, 6}}) {
            check.refused(at("SOME", w), Webs::busy, made -> made.term(14, w[0], w[1]), -1);
        }
        due("itself", Webs.none().term(6, 0, 0), -1);
        due("of 60, no such term", Webs.full().term(6, 60, 0), -1);
        due("of 60, no such second term", Webs.full().term(7, 59, 60), -1);
        due("of 60, no such variable", Webs.full().term(14, 3, 59), -1);
        due("of 60, no such kind", Webs.full().term(15, 0, 0), -1);
        tooDear();
    }

    private static PastWeb dear() {
        PastWeb web = new PastWeb();
        int whole = Webs.costing(web, 100000, 0);
        int some = Webs.costing(web, 6250, 0);
        web.keep(0, 1, whole);
        web.keep(1, 1, some);
        return web;
    }

    private static void tooDear() {
        check.says(16, "-5: its COST would be above 100000");
        PastWeb web = new PastWeb();
        int half = Webs.costing(web, 49999, 0);
        due("BOTH of 49999 twice", web.told(web.term(7, half, half), 2), 99999);
        int dearest = web.term(6, web.count(1) - 1, 0);
        due("NOT of 99999", web.told(dearest, 2), 100000);
        for (int kind : new int[] {6, 9, 10, 11, 12}) {
            due("100001", web.term(kind, dearest, 0), -5);
        }
        int more = web.term(6, half, 0);
        for (int kind : new int[] {7, 8, 13}) {
            due("50000 and 49999", web.told(web.term(kind, more, half), 2), 100000);
            due("50000 twice", web.term(kind, more, more), -5);
            due("100000 and 1", web.term(kind, dearest, 0), -5);
            due("1 and 100000", web.term(kind, 0, dearest), -5);
            due("100000 twice", web.term(kind, dearest, dearest), -5);
        }
        due("SOME of 100000", web.term(14, 2, dearest), -5);
        PastWeb other = new PastWeb();
        int part = Webs.costing(other, 6249, 0);
        due("SOME of 6249", other.told(other.term(14, 0, part), 2), 99985);
        due("SOME of 6250", other.term(14, 0, other.term(6, part, 0)), -5);
        int top = dear().count(1);
        check.refused("too dear", EdgesOfTermsTest::dear, made -> made.term(6, dearest(made), 0), -5);
        check.refused("SOME too dear", EdgesOfTermsTest::dear, made -> made.term(14, 1, top - 1), -5);
        while (web.count(1) < 60) {
            web.of(0, 0, 0);
        }
        due("of 60, and too dear", web.term(6, dearest, 0), -2);
        due("SOME of 60, and too dear", web.term(14, 0, dearest), -2);
        due("BOTH of 60, and too dear", web.term(7, dearest, dearest), -2);
        due("no such term, and too dear", web.term(7, dearest, 60), -1);
        due("no such variable, and too dear", web.term(14, 3, dearest), -1);
    }

    /** The number of the dearest term there is. */
    private static int dearest(PastWeb web) {
        int dearest = 0;
        for (int term = 1; term < web.count(1); term++) {
            dearest = web.told(term, 2) > web.told(dearest, 2) ? term : dearest;
        }
        return dearest;
    }

    private static void promise17() {
        check.says(17, "0 KIND, 1 FREE VARIABLES, as bits, 2 COST, 3 how deep (1; of those that are of TERMS one more than the "
                + "deepest of these). -1.");
        PastWeb web = Webs.busy();
        int[][] due = {{0, 1, 1, 1}, {3, 3, 1, 1}, {0, 4, 1, 1}, {7, 1, 3, 2}, {14, 1, 49, 3}, {14, 1, 785, 4}};
        for (int term = 0; term < due.length; term++) {
            for (int what = 0; what < 4; what++) {
                due(at("told", term, what), web.told(term, what), due[term][what]);
            }
        }
        due("deep by the first", web.told(web.term(7, 5, 0), 3), 5);
        due("deep by the second", web.told(web.term(13, 0, 5), 3), 5);
        for (int w : new int[] {-1, 4, MIN, MAX}) {
            check.refused(at("told", 0, w), Webs::busy, made -> made.told(0, w), -1);
            due(at("told of no term", Webs.BUSY_TERMS, w), Webs.busy().told(Webs.BUSY_TERMS, w), -1);
        }
        for (int w : new int[] {-1, Webs.BUSY_TERMS, 60, MIN, MAX}) {
            for (int what = 0; what < 4; what++) {
                int asked = what;
                check.refused(at("told", w, what), Webs::busy, made -> made.told(w, asked), -1);
            }
        }
        due("told(59, 3)", Webs.full().told(59, 3), 1);
        due("told(60, 3)", Webs.full().told(60, 3), -1);
        due("told(0, 0) of none", Webs.none().told(0, 0), -1);
        web = Webs.none();
        web.of(0, 0, 0);
        for (int i = 1; i < 60; i++) {
            due("deep", web.told(web.term(6, i - 1, 0), 3), i + 1);
        }
    }

    private static void promise18() {
        check.says(18, "for PARTS x, y, z (0 .. 15 each, FREE or not) in place of VARIABLES 0, 1, 2, as bits");
        PastWeb web = Webs.parts(0);
        web.put(15, 0, 0);
        web.put(0, 0, 0);
        int closed = web.of(0, 25, 0);
        for (int p : new int[] {0, 15}) {
            due("without variables", web.span(closed, p, 15 - p, p, false), 1);
        }
        web.state(0, -1);
        web.gone(15);
        due("x", web.span(web.of(0, 0, 0), 15, 0, 0, false), 1);
        due("y", web.span(web.of(0, 1, 0), 0, 15, 0, false), 1);
        due("z", web.span(web.of(0, 2, 0), 0, 0, 15, false), 1);
        due("not x", web.span(web.of(0, 0, 0), 0, 15, 15, false), 3);
        for (int w : new int[] {-1, 16, MIN, MAX}) {
            for (boolean wide : new boolean[] {true, false}) {
                for (int term : new int[] {Webs.THERE, Webs.LINK, Webs.THIRD, Webs.DEAR}) {
                    check.refused(at("span, x", term, w), Webs::busy, made -> made.span(term, w, 0, 0, wide), -1);
                    check.refused(at("span, y", term, w), Webs::busy, made -> made.span(term, 0, w, 0, wide), -1);
                    check.refused(at("span, z", term, w), Webs::busy, made -> made.span(term, 0, 0, w, wide), -1);
                }
            }
        }
        for (int w : new int[] {-1, Webs.BUSY_TERMS, 60, MIN, MAX}) {
            check.refused("span of term " + w, Webs::busy, made -> made.span(w, 0, 0, 0, false), -1);
        }
        due("span of none", Webs.none().span(0, 0, 0, 0, false), -1);

        check.says(18, "-1; -5: its COST is above 600");
        web = Webs.parts(1);
        int dear = Webs.costing(web, 600, 2);
        due("COST", web.told(dear, 2), 600);
        due("span of 600", web.span(dear, 0, 0, 0, false) + web.span(dear, 0, 0, 1, false), 1);
        int dearer = web.term(6, dear, 0);
        due("span of 601", web.span(dearer, 0, 0, 0, false), -5);
        due("wide span of 601", web.span(dearer, 0, 0, 0, true), -5);
        due("span of 601, z wrong", web.span(dearer, 0, 0, 16, true), -1);
        check.refused("span of 785", Webs::busy, made -> made.span(Webs.DEAR, 0, 0, 0, true), -5);
        due("span of 601 of no states", tooDearOfNone(), -5);
        deepest();
        lastOf512();
    }

    /** 60 terms, each of the one told before it. */
    private static void deepest() {
        int odd = 0x2aaaaaaa;
        int[] due = {odd ^ ALL, odd, odd, ALL - 1, 0, 2, 0, odd};
        for (int kind = 6; kind < 14; kind++) {
            PastWeb web = Webs.chain(30, odd, 0);
            web.of(0, 0, 0);
            for (int i = 0; i < 59; i++) {
                web.term(kind, i, 0);
            }
            due("deep", web.told(59, 3), 60);
            due("span of the deepest of kind " + kind, sure(web, 59), due[kind - 6]);
            due("wide span of the deepest of kind " + kind, may(web, 59), due[kind - 6]);
        }
    }

    /** An object is used for at most 512 calls: the last of so many, each of them dear, is answered as any. */
    private static void lastOf512() {
        PastWeb web = new PastWeb();
        for (int i = 0; i < 30; i++) {
            web.state(i - 1, i < 2 ? -1 : i - 2);
            web.put(i % 16, 0, 0);
        }
        int calls = 60;
        int dear = Webs.costing(web, 598, 0);
        dear = web.term(8, dear, web.of(0, 1, 0));
        calls += web.count(1);
        for (int i = 0; calls < 510; i++) {
            web.read(i % 2 != 0);
            web.rows(dear, i % 3 == 0);
            calls += 2;
        }
        web.read(true);
        due("rows, the last call", web.rows(dear, false), 256);
        due("the COST", web.told(dear, 2), 600);
    }

    private static int tooDearOfNone() {
        PastWeb web = Webs.none();
        return web.span(Webs.costing(web, 601, 0), 0, 0, 0, false);
    }

    private static void promise19() {
        check.says(19, "LINES of a set of STATES. -1 (others than there are).");
        due("of no states", Webs.none().lines(0), 0);
        due("one of none", Webs.none().lines(1), -1);
        due("the last one", Webs.busy().lines(4), 4);
        due("all three", Webs.busy().lines(7), 1);
        for (int w : new int[] {8, 9, 15, 1 << 29, 1 << 30, 1 << 31, -1, -8, MIN, MAX, MIN + 1}) {
            check.refused("lines(" + w + ")", Webs::busy, made -> made.lines(w), -1);
        }
        due("the last of 30", Webs.full().lines(1 << 29), 1 << 29);
        due("all 30", Webs.full().lines(ALL), 1);
        due("1 << 30 of 30", Webs.full().lines(1 << 30), -1);
        due("1 << 31 of 30", Webs.full().lines(1 << 31), -1);
        due("-1 of 30", Webs.full().lines(-1), -1);
        PastWeb web = Webs.none();
        for (int i = 0; i < 30; i++) {
            web.state(-1, -1);
        }
        due("30 lines", web.lines(ALL), ALL);
    }

    private static void promise20() {
        check.says(20, "How many ROWS (or WIDE ones). -1; -4: VARIABLE 2 is FREE; -5.");
        for (boolean wide : new boolean[] {true, false}) {
            for (int w : new int[] {-1, Webs.BUSY_TERMS, 60, MIN, MAX}) {
                check.refused("rows of " + w, Webs::busy, made -> made.rows(w, wide), -1);
            }
            check.refused("rows of THERE 2", Webs::busy, made -> made.rows(Webs.THIRD, wide), -4);
            check.refused("rows of 785", Webs::busy, made -> made.rows(Webs.DEAR, wide), -5);
            due("rows of none", Webs.none().rows(0, wide), -1);
        }
        PastWeb web = Webs.parts(1);
        int third = web.of(0, 2, 0);
        int some = web.term(14, 2, third);
        due("VARIABLE 2 is not FREE", web.rows(some, false), 1);
        due("VARIABLE 2 is FREE beside", web.rows(web.term(7, some, third), false), -4);
        int dear = Webs.costing(web, 600, 0);
        due("rows of 600", web.rows(dear, false), 1);
        int dearer = web.term(6, dear, 0);
        due("rows of 601", web.rows(dearer, false), -5);
        due("of 603, VARIABLE 2 FREE", web.rows(web.term(7, dearer, third), false), -4);
        due("of 603, VARIABLE 2 FREE, wide", web.rows(web.count(1) - 1, true), -4);
    }

    private static void promise21() {
        check.says(21, "ROW i, from 0. -1; -4; -5; -3 (behind these): there are not so many.");
        PastWeb web = Webs.parts(16);
        web.of(0, 0, 0);
        due("row 0", web.row(0, 0, false), 0);
        due("row 15", web.row(0, 15, false), 240);
        check.refused("row 16", () -> withThere(), made -> made.row(0, 16, false), -3);
        check.refused("row MAX", () -> withThere(), made -> made.row(0, MAX, true), -3);
        check.refused("row -1: out of range", () -> withThere(), made -> made.row(0, -1, false), -1);
        check.refused("row MIN: out of range", () -> withThere(), made -> made.row(0, MIN, true), -1);
        web.gone(0);
        due("row 15 of 15", web.row(0, 15, false), -3);
        for (boolean wide : new boolean[] {true, false}) {
            for (int i : new int[] {0, 1, 255, 256, MAX}) {
                for (int w : new int[] {-1, Webs.BUSY_TERMS, 60, MIN, MAX}) {
                    check.refused(at("row", w, i), Webs::busy, made -> made.row(w, i, wide), -1);
                }
                check.refused(at("row of THERE 2", i), Webs::busy, made -> made.row(Webs.THIRD, i, wide), -4);
                check.refused(at("row of 785", i), Webs::busy, made -> made.row(Webs.DEAR, i, wide), -5);
            }
            for (int i : new int[] {-1, MIN}) {
                for (int term : new int[] {Webs.THERE, Webs.THIRD, Webs.DEAR, Webs.BUSY_TERMS}) {
                    due(at("row", term, i), Webs.busy().row(term, i, wide), -1);
                }
            }
        }
        web = Webs.none();
        due("row of none", web.row(0, 0, false), -1);
        int dearer = Webs.costing(web, 601, 2);
        due("of 601, VARIABLE 2 FREE, and not so many", web.row(dearer, 0, false), -4);
        due("not so many of no states", web.row(web.of(0, 0, 0), 0, false), -3);
        int all = web.term(8, web.two(5, 0, 0, 1), web.term(6, web.two(5, 0, 0, 1), 0));
        web.state(-1, -1);
        due("row 255 of 256", web.row(all, 255, false), 255);
        due("row 256 of 256", web.row(all, 256, false), -3);
    }

    private static PastWeb withThere() {
        PastWeb web = Webs.parts(16);
        web.of(0, 0, 0);
        return web;
    }

    private static void promise22() {
        check.says(22, "the least in whose SPAN, for some PARTS in place of 0 and 1, one of them is alone; -2: there is none.");
        PastWeb web = Webs.chain(30, 1 << 29, 0);
        int there = web.of(0, 0, 0);
        int part = web.of(0, 10, 0);
        int second = web.of(0, 1, 0);
        int never = web.of(0, 25, 0);
        due("of itself", web.apart(there, there), -2);
        due("of two alike", web.apart(there, web.of(0, 0, 0)), -2);
        due("in the last", web.apart(part, never), 29);
        due("in the last, the other way", web.apart(never, part), 29);
        due("for some parts in place of 0", web.apart(there, part), 29);
        due("for some parts in place of 1", web.apart(second, part), 29);
        due("of 0 and 1", web.apart(there, second), 29);
        int last = web.two(5, 0, 0, 25);
        due("for part 15 alone", web.apart(last, web.term(6, web.two(5, 0, 0, 0), 0)), 0);
        due("for part 15 in place of 1 alone", web.apart(web.two(5, 0, 1, 25), web.two(5, 0, 10, 25)), 0);
        due("for one pair of 256", web.apart(web.term(7, last, web.two(5, 0, 1, 25)), web.two(5, 0, 10, 25)), 0);
        web.read(false);
        due("by spans, not by wide ones", web.apart(part, web.two(5, 0, 10, 11)), -2);
        PastWeb none = Webs.none();
        due("of no states", none.apart(none.of(0, 0, 0), none.two(5, 0, 0, 1)), -2);
        apartRefused();
    }

    private static void apartRefused() {
        check.says(22, "-2: there is none. -1; -4; -5.");
        int there = Webs.THERE;
        int third = Webs.THIRD;
        int dear = Webs.DEAR;
        int no = Webs.BUSY_TERMS;
        int[][] refused = {
            {-1, there, -1}, {no, there, -1}, {60, there, -1}, {MIN, there, -1}, {MAX, there, -1}, {no, third, -1},
            {no, dear, -1}, {no, no, -1}, {third, there, -4}, {third, dear, -4}, {third, third, -4}, {dear, there, -5},
            {dear, dear, -5}
        };
        for (int[] r : refused) {
            check.refused(at("apart", r[0], r[1]), Webs::busy, made -> made.apart(r[0], r[1]), r[2]);
            check.refused(at("apart", r[1], r[0]), Webs::busy, made -> made.apart(r[1], r[0]), r[2]);
        }
        PastWeb none = Webs.none();
        due("of none", none.apart(0, 0), -1);
        none.of(0, 2, 0);
        due("of no states, VARIABLE 2 FREE", none.apart(0, 0), -4);
        int dearer = Webs.costing(none, 601, 0);
        due("of no states, too dear", none.apart(dearer, dearer), -5);
        due("of no states, 600", none.apart(Webs.costing(none, 600, 0), Webs.costing(none, 600, 1)), -2);
    }

    public static void main(String[] args) {
        numbersOfTerms();
        termsOfOnePart();
        termsOfTwoParts();
        termsOfTerms();
        timedTerms();
        some();
        costsAndSpans();
        sureAndMay();
        termsThatHaveRows();
        rowsOfTerms();
        promise14();
        promise15();
        promise16();
        promise17();
        promise18();
        promise19();
        promise20();
        promise21();
        promise22();
        check.saidPromises(14, 22);
        check.end("EdgesOfTermsTest");
    }
}

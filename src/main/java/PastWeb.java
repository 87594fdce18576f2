import java.util.Arrays;

/** A desk that asks the past of a program. ../shared/DOC.md says what each call answers. */
public final class PastWeb {
    private static final int STATES = 30;
    private static final int PARTS = 16;
    private static final int SORTS = 4;
    private static final int SHAPES = 100;
    private static final int KINDS_OF_LINKS = 3;
    private static final int VARIABLES = 3;
    /** What a term is of is told as this and the part's number, or as the variable's number alone. */
    private static final int PART_TOLD = 10;
    private static final int TERMS = 60;
    private static final int KEPT_TERMS = 6;
    private static final int SHELVES = 8;
    private static final int PLACES = 60;
    private static final int PAIRS = PARTS * PARTS;
    private static final int DEAREST_TERM = 100000;
    private static final int DEAREST_ANSWER = 600;

    private static final int THERE = 0;
    private static final int SORT = 1;
    private static final int SHAPE = 2;
    private static final int LINK = 3;
    private static final int REACH = 4;
    private static final int SAME = 5;
    private static final int NOT = 6;
    private static final int BOTH = 7;
    private static final int EITHER = 8;
    private static final int EVER = 9;
    private static final int ALWAYS = 10;
    private static final int FIRST = 11;
    private static final int AHEAD = 12;
    private static final int SINCE = 13;
    private static final int SOME = 14;

    private static final int NO_SUCH = -1;
    private static final int FULL = -2;
    private static final int NONE = -2;
    private static final int NO_STATE = -3;
    private static final int NOT_SO_MANY = -3;
    private static final int NOT_THERE = -4;
    private static final int HELD_BY_KEPT = -4;
    private static final int NEEDS_THIRD_VARIABLE = -4;
    private static final int TOO_DEAR = -5;
    private static final int NOTHING_HELD = -11;
    private static final int OTHER_KIND = -12;
    private static final int NO_PLACE = -13;
    private static final int SIZE_BELOW_0 = -14;
    private static final int NO_FAILURE = -15;

    private static final int HOLDS_NOTHING = 0;
    private static final int HOLDS_TERM = 1;
    private static final int HOLDS_INTS = 3;
    private static final int HOLDS_BYTES = 4;

    private static final int NEWS = 0;
    private static final int GONE = 1;
    private static final int LONGER = 2;
    private static final int OTHER = 3;

    private final Past past;
    private final Term[] terms;
    private int termCount;
    private final Kept[] keptTerms;
    private int keptCount;
    private final Shelf[] shelves;
    private final Rows rows;

    public PastWeb() {
        past = new Past();
        terms = new Term[TERMS];
        keptTerms = new Kept[KEPT_TERMS];
        for (int i = 0; i < KEPT_TERMS; i++) {
            keptTerms[i] = new Kept();
        }
        shelves = new Shelf[SHELVES];
        for (int d = 0; d < SHELVES; d++) {
            shelves[d] = new Shelf();
        }
        rows = new Rows();
    }

    // ---- states

    public int state(int a, int b) {
        if (!areAhead(a, b)) {
            return NO_SUCH;
        }
        if (past.count >= STATES) {
            return FULL;
        }
        return past.come(a, b);
    }

    public int put(int part, int sort, int shape) {
        if (!isPart(part) || !isBelow(sort, SORTS) || !isBelow(shape, SHAPES)) {
            return NO_SUCH;
        }
        if (past.count == 0) {
            return NO_STATE;
        }
        return past.changeLatest().set(part, sort, shape) ? 1 : 0;
    }

    public int gone(int part) {
        if (!isPart(part)) {
            return NO_SUCH;
        }
        if (past.count == 0) {
            return NO_STATE;
        }
        if (!past.latest().has(part)) {
            return NOT_THERE;
        }
        return past.changeLatest().drop(part);
    }

    public int link(int kind, int from, int to, boolean is) {
        if (!isKindOfLink(kind) || !isPart(from) || !isPart(to)) {
            return NO_SUCH;
        }
        if (past.count == 0) {
            return NO_STATE;
        }
        if (!past.latest().has(from) || !past.latest().has(to)) {
            return NOT_THERE;
        }
        return past.changeLatest().lead(kind, from, to, is) ? 1 : 0;
    }

    public int read(boolean is) {
        if (past.count == 0) {
            return NO_STATE;
        }
        if (past.latest().isRead == is) {
            return 0;
        }
        past.changeLatest().isRead = is;
        return 1;
    }

    public int undo() {
        if (past.count == 0) {
            return NO_STATE;
        }
        if (keptCount > 0) {
            return HELD_BY_KEPT;
        }
        return past.dropLatest();
    }

    public int look(int state, int what) {
        if (!isState(state)) {
            return NO_SUCH;
        }
        State seen = past.states[state];
        switch (what) {
            case 0:
                return seen.first >= 0 ? seen.first : NONE;
            case 1:
                return seen.second >= 0 ? seen.second : NONE;
            case 2:
                return seen.before;
            case 3:
                return seen.isRead ? 1 : 0;
            case 4:
                return seen.parts;
            case 5:
                return seen.countLinks();
            case 6:
                return past.changedIn(state);
            default:
                return NO_SUCH;
        }
    }

    public int part(int state, int part, int what) {
        if (!isState(state) || !isPart(part) || !isBelow(what, 6)) {
            return NO_SUCH;
        }
        if (what == 5) {
            int to = past.wentOver(state, part);
            return to >= 0 ? to : NONE;
        }
        State seen = past.states[state];
        if (!seen.has(part)) {
            return NOT_THERE;
        }
        if (what == 0) {
            return seen.sorts[part];
        }
        return what == 1 ? seen.shapes[part] : seen.leads[(what - 2) * PARTS + part];
    }

    public long roads(int from, int to) throws IllegalArgumentException {
        if (!isState(from) || !isState(to)) {
            throw new IllegalArgumentException("no such states");
        }
        return past.countRoads(from, to);
    }

    public int meet(int state, int other) {
        return isState(state) && isState(other) ? past.latestCommon(state, other) : NO_SUCH;
    }

    public int between(int from, int to) {
        return isState(from) && isState(to) ? past.onWays(from, to) : NO_SUCH;
    }

    public int together(int part, int other, int what) {
        if (!isPart(part) || !isPart(other) || !isBelow(what, 3)) {
            return NO_SUCH;
        }
        int times = 0;
        for (int state = 0; state < past.count; state++) {
            int changed = past.changedIn(state);
            boolean one = isIn(part, changed);
            boolean two = isIn(other, changed);
            if (what == 0 ? one && two : what == 1 ? one && !two : two && !one) {
                times++;
            }
        }
        return times;
    }

    // ---- terms

    public int of(int kind, int u, int n) {
        if (!isOfSign(u)) {
            return NO_SUCH;
        }
        boolean asTold = kind == THERE || kind == SORT && isBelow(n, SORTS) || kind == SHAPE && isBelow(n, SHAPES);
        return asTold ? addTerm(new Atom(kind, n, u, u)) : NO_SUCH;
    }

    public int two(int kind, int k, int u, int w) {
        if (!isOfSign(u) || !isOfSign(w)) {
            return NO_SUCH;
        }
        boolean asTold = kind == SAME || (kind == LINK || kind == REACH) && isKindOfLink(k);
        return asTold ? addTerm(new Atom(kind, k, u, w)) : NO_SUCH;
    }

    public int term(int kind, int a, int b) {
        if (kind == SOME) {
            return isBelow(a, VARIABLES) && isTerm(b) ? addSome(a, terms[b]) : NO_SUCH;
        }
        if (kind < NOT || kind > SOME || !isTerm(a)) {
            return NO_SUCH;
        }
        if (!isOfTwoTerms(kind)) {
            return addOfTerms(kind, terms[a], terms[a], 1 + terms[a].cost);
        }
        return isTerm(b) ? addOfTerms(kind, terms[a], terms[b], 1 + terms[a].cost + terms[b].cost) : NO_SUCH;
    }

    public int told(int term, int what) {
        if (!isTerm(term)) {
            return NO_SUCH;
        }
        Term asked = terms[term];
        switch (what) {
            case 0:
                return asked.kind;
            case 1:
                return asked.free;
            case 2:
                return asked.cost;
            case 3:
                return asked.deep;
            default:
                return NO_SUCH;
        }
    }

    public int span(int term, int x, int y, int z, boolean wide) {
        if (!isTerm(term) || !isPart(x) || !isPart(y) || !isPart(z)) {
            return NO_SUCH;
        }
        if (terms[term].cost > DEAREST_ANSWER) {
            return TOO_DEAR;
        }
        past.note();
        return spanOf(terms[term].spans(past, asParts(x, y, z)), wide);
    }

    public int lines(int states) {
        return (states & ~past.all()) == 0 ? past.withNoneBefore(states, states) : NO_SUCH;
    }

    public int rows(int term, boolean wide) {
        int refusal = refusalOfRows(term);
        if (refusal != 0) {
            return refusal;
        }
        rows.fill(terms[term], past);
        return rows.size(wide);
    }

    public int row(int term, int i, boolean wide) {
        if (i < 0) {
            return NO_SUCH;
        }
        int refusal = refusalOfRows(term);
        if (refusal != 0) {
            return refusal;
        }
        rows.fill(terms[term], past);
        int row = rows.find(i, wide);
        return row >= 0 ? row : NOT_SO_MANY;
    }

    public int apart(int term, int other) {
        int refusal = firstRefusal(refusalOfRows(term), refusalOfRows(other));
        return refusal != 0 ? refusal : firstApart(terms[term], terms[other]);
    }

    // ---- terms that are kept

    public int keepTerm(int term) {
        int refusal = refusalOfRows(term);
        if (refusal != 0) {
            return refusal;
        }
        if (keptCount >= KEPT_TERMS) {
            return FULL;
        }
        rows.fill(terms[term], past);
        keptTerms[keptCount].take(rows);
        return keptCount++;
    }

    public int fresh(int kept, int what) {
        int answer = news(kept, what);
        if (answer >= 0) {
            keptTerms[kept].take(rows);
        }
        return answer;
    }

    public int news(int kept, int what) {
        if (!isBelow(kept, keptCount) || !isBelow(what, 4)) {
            return NO_SUCH;
        }
        rows.fill(keptTerms[kept].term, past);
        return keptTerms[kept].countNews(rows, what);
    }

    public int forget() {
        int went = keptCount;
        keptCount = 0;
        return went;
    }

    public int count(int what) {
        switch (what) {
            case 0:
                return past.count;
            case 1:
                return termCount;
            case 2:
                return keptCount;
            default:
                return NO_SUCH;
        }
    }

    public int keep(int d, int what, int k) {
        if (!isShelf(d)) {
            return NO_SUCH;
        }
        switch (what) {
            case HOLDS_NOTHING:
                shelves[d].clear();
                return 0;
            case HOLDS_TERM:
                return isTerm(k) ? shelves[d].holdTerm(terms[k]) : NO_SUCH;
            case HOLDS_INTS:
                return keepRowCounts(shelves[d], k);
            case HOLDS_BYTES:
                return isState(k) ? shelves[d].holdBytes(past.states[k].tellShapes()) : NO_SUCH;
            default:
                return NO_SUCH;
        }
    }

    public int make(int d, int what, int n) {
        if (!isShelf(d) || what != HOLDS_INTS && what != HOLDS_BYTES || n > PLACES) {
            return NO_SUCH;
        }
        if (n < 0) {
            return SIZE_BELOW_0;
        }
        return what == HOLDS_INTS ? shelves[d].holdInts(new int[n]) : shelves[d].holdBytes(new byte[n]);
    }

    public long element(int d, int i) throws IllegalArgumentException, IllegalStateException {
        if (!isShelf(d)) {
            throw new IllegalArgumentException("no such shelf");
        }
        if (!isBelow(i, shelves[d].size())) {
            throw new IllegalStateException("no such place of a row");
        }
        return shelves[d].at(i);
    }

    public int copy(int d, int i, int e, int j, int n) {
        if (!isShelf(d) || !isShelf(e)) {
            return NO_SUCH;
        }
        Shelf from = shelves[d];
        Shelf to = shelves[e];
        if (from.isEmpty() || to.isEmpty()) {
            return NOTHING_HELD;
        }
        if (!from.isLike(to)) {
            return OTHER_KIND;
        }
        if (n < 0 || !isStretch(i, n, from.size()) || !isStretch(j, n, to.size())) {
            return NO_PLACE;
        }
        from.giveTo(to, i, j, n);
        return n;
    }

    public int weight(int d) {
        int refusal = refusalOfHeldTerm(d);
        return refusal != 0 ? refusal : shelves[d].term.heft();
    }

    public int toss(int d) {
        int refusal = refusalOfHeldTerm(d);
        if (refusal != 0) {
            return refusal;
        }
        try {
            shelves[d].term.fail();
            return NO_FAILURE;
        } catch (IllegalStateException failure) {
            return shelves[d].term.kind;
        }
    }

    // ---- what calls have in common

    private static boolean isBelow(int number, int end) {
        return number >= 0 && number < end;
    }

    private static boolean isPart(int part) {
        return isBelow(part, PARTS);
    }

    private static boolean isKindOfLink(int kind) {
        return isBelow(kind, KINDS_OF_LINKS);
    }

    /** Whether it tells a variable or a part. */
    private static boolean isOfSign(int u) {
        return isBelow(u, VARIABLES) || u >= PART_TOLD && u < PART_TOLD + PARTS;
    }

    private boolean isState(int state) {
        return isBelow(state, past.count);
    }

    private boolean isTerm(int term) {
        return isBelow(term, termCount);
    }

    private static boolean isShelf(int d) {
        return isBelow(d, SHELVES);
    }

    private static boolean isOfTwoTerms(int kind) {
        return kind == BOTH || kind == EITHER || kind == SINCE;
    }

    /** Without a sum, which could wrap round. */
    private static boolean isStretch(int start, int n, int size) {
        return start >= 0 && start <= size && n <= size - start;
    }

    private static boolean isIn(int number, int bits) {
        return (bits >> number & 1) != 0;
    }

    private boolean areAhead(int a, int b) {
        if (a == -1) {
            return b == -1;
        }
        return isState(a) && (b == -1 || isState(b) && b != a);
    }

    /** One number for the parts in place of the variables 0, 1, 2: four bits each. */
    private static int asParts(int x, int y, int z) {
        return x | y << 4 | z << 8;
    }

    /** The bits of the parts in place of those variables. */
    private static int partsInPlaceOf(int free) {
        return (isIn(0, free) ? 15 : 0) | (isIn(1, free) ? 15 << 4 : 0) | (isIn(2, free) ? 15 << 8 : 0);
    }

    /** A sure span and a wide one in one number, so that one walk through a term finds both. */
    private static long bothSpans(int sure, int may) {
        return (long) may << 32 | sure;
    }

    private static int spanOf(long spans, boolean wide) {
        return (int) (wide ? spans >> 32 : spans);
    }

    private int addTerm(Term term) {
        if (termCount >= TERMS) {
            return FULL;
        }
        terms[termCount] = term;
        return termCount++;
    }

    private int addSome(int variable, Term of) {
        // The count is looked at first: being full is told ahead of being too dear.
        if (termCount >= TERMS) {
            return FULL;
        }
        int cost = 1 + PARTS * of.cost;
        return cost > DEAREST_TERM ? TOO_DEAR : addTerm(new Some(variable, of, cost));
    }

    private int addOfTerms(int kind, Term a, Term b, int cost) {
        if (termCount >= TERMS) {
            return FULL;
        }
        if (cost > DEAREST_TERM) {
            return TOO_DEAR;
        }
        return addTerm(kind < EVER ? new Plain(kind, a, b, cost) : new Timed(kind, a, b, cost));
    }

    /** 0: the term has rows that can be asked for. */
    private int refusalOfRows(int term) {
        if (!isTerm(term)) {
            return NO_SUCH;
        }
        if (isIn(2, terms[term].free)) {
            return NEEDS_THIRD_VARIABLE;
        }
        return terms[term].cost > DEAREST_ANSWER ? TOO_DEAR : 0;
    }

    /** Of two refusals, 0 for none, the one told first: they are told from -1 down. */
    private static int firstRefusal(int one, int two) {
        return one == 0 || two == 0 ? Math.min(one, two) : Math.max(one, two);
    }

    /** 0: the shelf holds a term. */
    private int refusalOfHeldTerm(int d) {
        if (!isShelf(d)) {
            return NO_SUCH;
        }
        if (shelves[d].isEmpty()) {
            return NOTHING_HELD;
        }
        return shelves[d].term == null ? OTHER_KIND : 0;
    }

    private int firstApart(Term term, Term other) {
        past.note();
        int free = term.free | other.free;
        int alone = 0;
        for (int row = 0; row < PAIRS; row++) {
            if (Rows.isOne(row, free)) {
                int parts = Rows.partsOf(row);
                alone |= spanOf(term.spans(past, parts) ^ other.spans(past, parts), false);
            }
        }
        return alone == 0 ? NONE : Integer.numberOfTrailingZeros(alone);
    }

    private int keepRowCounts(Shelf shelf, int term) {
        int refusal = refusalOfRows(term);
        if (refusal != 0) {
            return refusal;
        }
        rows.fill(terms[term], past);
        return shelf.holdInts(rows.countInStates(past.count));
    }

    /** One state: what is ahead of it, the parts that are there, and their links. */
    private static final class State {
        private int first;
        private int second;
        private int ahead;
        private int before;
        private boolean isRead;
        private int parts;
        private final byte[] sorts = new byte[PARTS];
        private final byte[] shapes = new byte[PARTS];
        /** At 16 * kind and the part: the parts to which its links lead, as bits. */
        private final int[] leads = new int[KINDS_OF_LINKS * PARTS];

        private void begin(int a, int b) {
            first = a;
            second = b;
            ahead = 0;
            before = 0;
            isRead = true;
            parts = 0;
            Arrays.fill(leads, 0);
        }

        private void follow(State other, int number) {
            ahead |= 1 << number;
            before |= other.before | 1 << number;
            for (int part = 0; part < PARTS; part++) {
                if (other.has(part) && !has(part)) {
                    set(part, other.sorts[part], other.shapes[part]);
                }
            }
            for (int i = 0; i < leads.length; i++) {
                leads[i] |= other.leads[i];
            }
        }

        private boolean has(int part) {
            return isIn(part, parts);
        }

        private boolean set(int part, int sort, int shape) {
            boolean isNew = !has(part);
            parts |= 1 << part;
            sorts[part] = (byte) sort;
            shapes[part] = (byte) shape;
            return isNew;
        }

        private int drop(int part) {
            int links = countLinks();
            parts &= ~(1 << part);
            for (int i = 0; i < leads.length; i++) {
                leads[i] = i % PARTS == part ? 0 : leads[i] & ~(1 << part);
            }
            return links - countLinks();
        }

        private boolean lead(int kind, int from, int to, boolean is) {
            int place = kind * PARTS + from;
            int was = leads[place];
            leads[place] = is ? was | 1 << to : was & ~(1 << to);
            return leads[place] != was;
        }

        private int countLinks() {
            int links = 0;
            for (int i = 0; i < leads.length; i++) {
                links += Integer.bitCount(leads[i]);
            }
            return links;
        }

        private boolean hasSameLook(int part, State other, int otherPart) {
            return sorts[part] == other.sorts[otherPart] && shapes[part] == other.shapes[otherPart];
        }

        private boolean hasSameLinks(int part, State other) {
            for (int i = part; i < leads.length; i += PARTS) {
                if (leads[i] != other.leads[i]) {
                    return false;
                }
            }
            return true;
        }

        private int changedFrom(State other) {
            int changed = parts ^ other.parts;
            for (int part = 0; part < PARTS; part++) {
                if (has(part) && other.has(part)
                        && !(hasSameLook(part, other, part) && hasSameLinks(part, other))) {
                    changed |= 1 << part;
                }
            }
            return changed;
        }

        /** The least part that came since the state ahead, looks as that one did there, and is not taken. */
        private int heir(int part, State other, int taken) {
            for (int to = 0; to < PARTS; to++) {
                if (has(to) && !other.has(to) && !isIn(to, taken) && hasSameLook(to, other, part)) {
                    return to;
                }
            }
            return -1;
        }

        /** Fills reached, by part, with the parts to which links of a kind lead, one behind the other. */
        private void closeLinks(int kind, int[] reached) {
            System.arraycopy(leads, kind * PARTS, reached, 0, PARTS);
            for (int over = 0; over < PARTS; over++) {
                for (int from = 0; from < PARTS; from++) {
                    if (isIn(over, reached[from])) {
                        reached[from] |= reached[over];
                    }
                }
            }
        }

        private byte[] tellShapes() {
            byte[] told = new byte[PARTS];
            for (int part = 0; part < PARTS; part++) {
                told[part] = has(part) ? shapes[part] : -1;
            }
            return told;
        }
    }

    /**
     * All states, and sets of states in which a fact stands: terms are asked of all states at
     * once, so these sets are noted once a change and not looked for once a term.
     */
    private static final class Past {
        private final State[] states = new State[STATES];
        private int count;
        /** So that what was made of the states can tell whether it still stands. */
        private int changes;
        /** States of lower numbers are noted as they are. */
        private int noted;
        private int readIn;
        private final int[] thereIn = new int[PARTS];
        private final int[] linkedIn = new int[KINDS_OF_LINKS * PAIRS];
        private final int[] reachedIn = new int[KINDS_OF_LINKS * PAIRS];
        private final int[] reached = new int[PARTS];
        private final long[] ways = new long[STATES];

        private Past() {
            for (int i = 0; i < STATES; i++) {
                states[i] = new State();
            }
        }

        private int all() {
            return (1 << count) - 1;
        }

        private int come(int a, int b) {
            State state = states[count];
            state.begin(a, b);
            if (a >= 0) {
                state.follow(states[a], a);
            }
            if (b >= 0) {
                state.follow(states[b], b);
            }
            changes++;
            return count++;
        }

        private State latest() {
            return states[count - 1];
        }

        private State changeLatest() {
            changes++;
            noted = Math.min(noted, count - 1);
            return latest();
        }

        private int dropLatest() {
            changeLatest();
            count--;
            return count;
        }

        private void note() {
            for (int i = noted; i < count; i++) {
                noteState(states[i], 1 << i);
            }
            noted = count;
        }

        private void noteState(State state, int bit) {
            readIn = withBit(readIn, bit, state.isRead);
            for (int part = 0; part < PARTS; part++) {
                thereIn[part] = withBit(thereIn[part], bit, state.has(part));
            }
            for (int kind = 0; kind < KINDS_OF_LINKS; kind++) {
                state.closeLinks(kind, reached);
                for (int pair = 0; pair < PAIRS; pair++) {
                    int from = pair / PARTS;
                    int to = pair % PARTS;
                    int place = kind * PAIRS + pair;
                    linkedIn[place] = withBit(linkedIn[place], bit, isIn(to, state.leads[kind * PARTS + from]));
                    reachedIn[place] = withBit(reachedIn[place], bit, isIn(to, reached[from]));
                }
            }
        }

        private static int withBit(int bits, int bit, boolean is) {
            return is ? bits | bit : bits & ~bit;
        }

        /** Spans of a term that tells what could be read, from the states in which it is so. */
        private long spansOfFact(int bits) {
            return bothSpans(bits & readIn & all(), (bits | ~readIn) & all());
        }

        private int withSort(int part, int sort) {
            int bits = 0;
            for (int i = 0; i < count; i++) {
                if (states[i].has(part) && states[i].sorts[part] == sort) {
                    bits |= 1 << i;
                }
            }
            return bits;
        }

        private int withShape(int part, int shape) {
            int bits = 0;
            for (int i = 0; i < count; i++) {
                if (states[i].has(part) && states[i].shapes[part] == shape) {
                    bits |= 1 << i;
                }
            }
            return bits;
        }

        private int upTo(int state) {
            return states[state].before | 1 << state;
        }

        private int ever(int bits) {
            int held = 0;
            for (int i = 0; i < count; i++) {
                if ((upTo(i) & bits) != 0) {
                    held |= 1 << i;
                }
            }
            return held;
        }

        private int always(int bits) {
            int held = 0;
            for (int i = 0; i < count; i++) {
                if ((upTo(i) & ~bits) == 0) {
                    held |= 1 << i;
                }
            }
            return held;
        }

        /** Those of the set that have none of the others before them. */
        private int withNoneBefore(int bits, int others) {
            int held = 0;
            for (int i = 0; i < count; i++) {
                if (isIn(i, bits) && (states[i].before & others) == 0) {
                    held |= 1 << i;
                }
            }
            return held;
        }

        private int rightBehind(int bits) {
            int held = 0;
            for (int i = 0; i < count; i++) {
                if ((states[i].ahead & bits) != 0) {
                    held |= 1 << i;
                }
            }
            return held;
        }

        private int since(int lasting, int begun) {
            int held = 0;
            for (int i = 0; i < count; i++) {
                int ahead = states[i].ahead;
                boolean lasts = isIn(i, lasting) && ahead != 0 && (ahead & ~held) == 0;
                if (lasts || isIn(i, begun)) {
                    held |= 1 << i;
                }
            }
            return held;
        }

        private int changedIn(int number) {
            State state = states[number];
            if (!state.isRead) {
                return 0;
            }
            return state.first >= 0 ? state.changedFrom(states[state.first]) : state.parts;
        }

        /** -1: to none, or it did not go. */
        private int wentOver(int number, int part) {
            State state = states[number];
            if (state.first < 0) {
                return -1;
            }
            State other = states[state.first];
            int taken = 0;
            for (int lost = 0; lost <= part; lost++) {
                if (other.has(lost) && !state.has(lost)) {
                    int to = state.heir(lost, other, taken);
                    if (lost == part) {
                        return to;
                    }
                    taken |= to >= 0 ? 1 << to : 0;
                }
            }
            return -1;
        }

        private long countRoads(int from, int to) {
            for (int i = 0; i <= to; i++) {
                ways[i] = i == from ? 1 : waysTo(states[i].first) + waysTo(states[i].second);
            }
            return ways[to];
        }

        private long waysTo(int state) {
            return state >= 0 ? ways[state] : 0;
        }

        private int latestCommon(int state, int other) {
            int common = upTo(state) & upTo(other);
            int passed = 0;
            for (int i = 0; i < count; i++) {
                if (isIn(i, common)) {
                    passed |= states[i].before;
                }
            }
            return common & ~passed;
        }

        private int onWays(int from, int to) {
            int on = 0;
            for (int i = 0; i < count; i++) {
                if (isIn(i, upTo(to)) && isIn(from, upTo(i))) {
                    on |= 1 << i;
                }
            }
            return on;
        }
    }

    /** A question over parts and states. */
    private abstract static class Term {
        final int kind;
        final int free;
        final int cost;
        final int deep;
        private final int ownParts;
        /** The last answer: the same is often asked again, by terms that have it twice or in SOME. */
        private long known;
        private int knownFor;
        private int knownAt;

        private Term(int kind, int free, int cost, int deep) {
            this.kind = kind;
            this.free = free;
            this.cost = cost;
            this.deep = deep;
            ownParts = partsInPlaceOf(free);
            knownAt = -1;
        }

        /** Its span and its wide span. Goes as deep as the term is: 60 terms are 60 deep at most. */
        final long spans(Past past, int parts) {
            int own = parts & ownParts;
            if (knownAt != past.changes || knownFor != own) {
                known = findSpans(past, own);
                knownFor = own;
                knownAt = past.changes;
            }
            return known;
        }

        /** What spans answers, for parts in place of the free variables alone. */
        abstract long findSpans(Past past, int parts);

        int heft() {
            return cost + 10 * deep;
        }

        void fail() {
            // A term of no terms has no failure.
        }
    }

    /** A term of variables and parts. */
    private static final class Atom extends Term {
        private final int number;
        private final int u;
        private final int w;

        private Atom(int kind, int number, int u, int w) {
            super(kind, freeIn(u) | freeIn(w), 1, 1);
            this.number = number;
            this.u = u;
            this.w = w;
        }

        private static int freeIn(int u) {
            return u < PART_TOLD ? 1 << u : 0;
        }

        private static int partFor(int u, int parts) {
            return u < PART_TOLD ? parts >> 4 * u & 15 : u - PART_TOLD;
        }

        long findSpans(Past past, int parts) {
            int one = partFor(u, parts);
            int two = partFor(w, parts);
            switch (kind) {
                case THERE:
                    return past.spansOfFact(past.thereIn[one]);
                case SORT:
                    return past.spansOfFact(past.withSort(one, number));
                case SHAPE:
                    return past.spansOfFact(past.withShape(one, number));
                case LINK:
                    return past.spansOfFact(past.linkedIn[number * PAIRS + one * PARTS + two]);
                case REACH:
                    return past.spansOfFact(past.reachedIn[number * PAIRS + one * PARTS + two]);
                default:
                    return one == two ? bothSpans(past.all(), past.all()) : 0;
            }
        }
    }

    /** A term of terms. */
    private abstract static class OfTerms extends Term {
        final Term a;
        /** The same as a, where the kind is of one term. */
        final Term b;

        private OfTerms(int kind, Term a, Term b, int free, int cost) {
            super(kind, free, cost, 1 + Math.max(a.deep, b.deep));
            this.a = a;
            this.b = b;
        }

        int heft() {
            return super.heft() + 100;
        }

        void fail() {
            throw new IllegalStateException("the failure of a term of terms");
        }
    }

    /** A term of terms that looks at no other state. */
    private static final class Plain extends OfTerms {
        private Plain(int kind, Term a, Term b, int cost) {
            super(kind, a, b, a.free | b.free, cost);
        }

        long findSpans(Past past, int parts) {
            long own = a.spans(past, parts);
            switch (kind) {
                case NOT:
                    return bothSpans(past.all() & ~spanOf(own, true), past.all() & ~spanOf(own, false));
                case BOTH:
                    return own & b.spans(past, parts);
                default:
                    return own | b.spans(past, parts);
            }
        }
    }

    /** A term of terms that looks back at other states. */
    private static final class Timed extends OfTerms {
        private Timed(int kind, Term a, Term b, int cost) {
            super(kind, a, b, a.free | b.free, cost);
        }

        int heft() {
            return super.heft() + 1000;
        }

        long findSpans(Past past, int parts) {
            long own = a.spans(past, parts);
            int sure = spanOf(own, false);
            int may = spanOf(own, true);
            switch (kind) {
                case EVER:
                    return bothSpans(past.ever(sure), past.ever(may));
                case ALWAYS:
                    return bothSpans(past.always(sure), past.always(may));
                case FIRST:
                    return bothSpans(past.withNoneBefore(sure, may), past.withNoneBefore(may, sure));
                case AHEAD:
                    return bothSpans(past.rightBehind(sure), past.rightBehind(may));
                default:
                    long begun = b.spans(past, parts);
                    return bothSpans(past.since(sure, spanOf(begun, false)), past.since(may, spanOf(begun, true)));
            }
        }
    }

    /** SOME: its variable is no one else's within it. */
    private static final class Some extends OfTerms {
        private final int variable;

        private Some(int variable, Term of, int cost) {
            super(SOME, of, of, of.free & ~(1 << variable), cost);
            this.variable = variable;
        }

        int heft() {
            return 2 * super.heft();
        }

        long findSpans(Past past, int parts) {
            long any = 0;
            for (int part = 0; part < PARTS; part++) {
                any |= a.spans(past, parts | part << 4 * variable);
            }
            return any;
        }
    }

    /** The spans of one term by row: 16 * the part in place of 0 and that of 1. An empty span is no row. */
    private static final class Rows {
        private Term term;
        private int madeAt;
        private final int[] sure = new int[PAIRS];
        private final int[] may = new int[PAIRS];

        /** Whether variables that are not free have part 0 in it. */
        private static boolean isOne(int row, int free) {
            return (isIn(0, free) || row / PARTS == 0) && (isIn(1, free) || row % PARTS == 0);
        }

        private static int partsOf(int row) {
            return asParts(row / PARTS, row % PARTS, 0);
        }

        private void fill(Term wanted, Past past) {
            if (term == wanted && madeAt == past.changes) {
                return;
            }
            past.note();
            for (int row = 0; row < PAIRS; row++) {
                long spans = isOne(row, wanted.free) ? wanted.spans(past, partsOf(row)) : 0;
                sure[row] = spanOf(spans, false);
                may[row] = spanOf(spans, true);
            }
            term = wanted;
            madeAt = past.changes;
        }

        private int size(boolean wide) {
            int[] spans = wide ? may : sure;
            int size = 0;
            for (int row = 0; row < PAIRS; row++) {
                size += spans[row] != 0 ? 1 : 0;
            }
            return size;
        }

        /** -1: there are not so many. */
        private int find(int i, boolean wide) {
            int[] spans = wide ? may : sure;
            int left = i;
            for (int row = 0; row < PAIRS; row++) {
                if (spans[row] != 0) {
                    if (left == 0) {
                        return row;
                    }
                    left--;
                }
            }
            return -1;
        }

        private int[] countInStates(int states) {
            int[] counts = new int[states];
            for (int row = 0; row < PAIRS; row++) {
                for (int i = 0; i < states; i++) {
                    counts[i] += sure[row] >> i & 1;
                }
            }
            return counts;
        }
    }

    /** A kept term, with its spans as they were. */
    private static final class Kept {
        private Term term;
        private final int[] spans = new int[PAIRS];

        private void take(Rows rows) {
            term = rows.term;
            System.arraycopy(rows.sure, 0, spans, 0, PAIRS);
        }

        private int countNews(Rows rows, int what) {
            int found = 0;
            for (int row = 0; row < PAIRS; row++) {
                if (spans[row] != rows.sure[row] && newsOf(spans[row], rows.sure[row]) == what) {
                    found++;
                }
            }
            return found;
        }

        private static int newsOf(int was, int is) {
            if (was == 0) {
                return NEWS;
            }
            if (is == 0) {
                return GONE;
            }
            return Integer.bitCount(is) > Integer.bitCount(was) ? LONGER : OTHER;
        }
    }

    /** Holds nothing, or one of the three. */
    private static final class Shelf {
        private Term term;
        private int[] ints;
        private byte[] bytes;

        private void clear() {
            term = null;
            ints = null;
            bytes = null;
        }

        private int holdTerm(Term held) {
            clear();
            term = held;
            return 0;
        }

        private int holdInts(int[] held) {
            clear();
            ints = held;
            return 0;
        }

        private int holdBytes(byte[] held) {
            clear();
            bytes = held;
            return 0;
        }

        private boolean isEmpty() {
            return term == null && ints == null && bytes == null;
        }

        /** -1: it holds no row. */
        private int size() {
            if (ints != null) {
                return ints.length;
            }
            return bytes != null ? bytes.length : -1;
        }

        private long at(int i) {
            if (ints != null) {
                return ints[i];
            }
            return bytes != null ? bytes[i] : 0;
        }

        /** Whether both hold rows, of one kind. */
        private boolean isLike(Shelf other) {
            return ints != null && other.ints != null || bytes != null && other.bytes != null;
        }

        private void giveTo(Shelf other, int from, int to, int n) {
            if (ints != null && other.ints != null) {
                System.arraycopy(ints, from, other.ints, to, n);
            }
            if (bytes != null && other.bytes != null) {
                System.arraycopy(bytes, from, other.bytes, to, n);
            }
        }
    }
}

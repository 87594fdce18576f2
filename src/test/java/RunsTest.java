/** Long runs of calls, right and wrong ones, on PastWeb and on the model of it: all answers must be alike. */
public final class RunsTest {
    private static final int CALLS = 512;
    private static final Check check = new Check();

    private long seed;
    private PastWeb web;
    private Model model;
    private String called;

    private RunsTest(long seed) {
        this.seed = seed * 7919 + 17;
        web = new PastWeb();
        model = new Model();
    }

    private int below(int end) {
        seed = seed * 6364136223846793005L + 1442695040888963407L;
        return (int) ((seed >>> 33) % end);
    }

    /** A number mostly within, now and then outside. */
    private int about(int end) {
        int dice = below(60);
        if (dice == 0) {
            return -1;
        }
        if (dice == 1) {
            return end;
        }
        if (dice == 2) {
            int[] far = {Integer.MIN_VALUE, Integer.MAX_VALUE, -2, end + 1, 1 << 30, 31, 32};
            return far[below(far.length)];
        }
        return end <= 0 ? 0 : below(end);
    }

    private int states() {
        return (int) model.count(0);
    }

    private int terms() {
        return (int) model.count(1);
    }

    /** Few names, so that calls meet. */
    private int name() {
        return below(5) == 0 ? about(16) : below(5);
    }

    private int sign() {
        int dice = below(20);
        return dice == 0 ? about(30) : dice < 13 ? below(dice == 1 ? 3 : 2) : 10 + below(5);
    }

    private int recentTerm() {
        return below(3) == 0 && terms() > 8 ? terms() - 1 - below(8) : about(terms());
    }

    private boolean flag() {
        return below(2) == 0;
    }

    private int near(int state) {
        return below(4) == 0 || state < 3 ? about(state + 1) - 1 : state - 1 - below(3);
    }

    private void due(long got, long want) {
        check.due(called, got, want);
    }

    private void tell(String name, Object... numbers) {
        StringBuilder text = new StringBuilder(name).append('(');
        for (int i = 0; i < numbers.length; i++) {
            text.append(i == 0 ? "" : ", ").append(numbers[i]);
        }
        called = text.append(')').toString();
    }

    private static long thrown(String answer) {
        if (answer.equals("throws.IllegalArgumentException")) {
            return Model.ILLEGAL_ARGUMENT;
        }
        return answer.equals("throws.IllegalStateException") ? Model.ILLEGAL_STATE : Long.parseLong(answer);
    }

    private void callStates(int which) {
        int a = name();
        int b = name();
        int s = about(states());
        int t = about(states());
        int what;
        switch (which) {
            case 0:
                s = near(states());
                t = below(2) == 0 ? -1 : near(states());
                tell("state", s, t);
                due(web.state(s, t), model.state(s, t));
                break;
            case 1:
                s = below(12) == 0 ? about(4) : below(2);
                t = below(12) == 0 ? about(100) : 7 + below(2);
                tell("put", a, s, t);
                due(web.put(a, s, t), model.put(a, s, t));
                break;
            case 2:
                tell("gone", a);
                due(web.gone(a), model.gone(a));
                break;
            case 3:
                int kind = below(4) == 0 ? about(3) : 0;
                boolean is = below(4) != 0;
                tell("link", kind, a, b, is);
                due(web.link(kind, a, b, is), model.link(kind, a, b, is));
                break;
            case 4:
                boolean read = below(3) != 0;
                tell("read", read);
                due(web.read(read), model.read(read));
                break;
            case 5:
                tell("undo");
                due(web.undo(), model.undo());
                break;
            case 6:
                what = about(7);
                tell("look", s, what);
                due(web.look(s, what), model.look(s, what));
                break;
            case 7:
                what = about(6);
                tell("part", s, a, what);
                due(web.part(s, a, what), model.part(s, a, what));
                break;
            case 8:
                tell("roads", s, t);
                due(thrown(Check.roads(web, s, t)), model.roads(s, t));
                break;
            case 9:
                tell("meet", s, t);
                due(web.meet(s, t), model.meet(s, t));
                break;
            case 10:
                tell("between", s, t);
                due(web.between(s, t), model.between(s, t));
                break;
            default:
                what = about(3);
                tell("together", a, b, what);
                due(web.together(a, b, what), model.together(a, b, what));
                break;
        }
    }

    private void callTerms(int which) {
        int u = sign();
        int w = sign();
        int a = recentTerm();
        int b = recentTerm();
        int kind;
        boolean wide = flag();
        switch (which) {
            case 12:
                kind = about(3);
                int n = kind == 2 && below(9) != 0 ? 7 + below(2) : about(kind == 2 ? 100 : 4);
                tell("of", kind, u, n);
                due(web.of(kind, u, n), model.of(kind, u, n));
                break;
            case 13:
                kind = 3 + about(3);
                int k = below(4) == 0 ? about(3) : 0;
                tell("two", kind, k, u, w);
                due(web.two(kind, k, u, w), model.two(kind, k, u, w));
                break;
            case 14:
                kind = 6 + about(9);
                a = kind == 14 ? about(3) : a;
                tell("term", kind, a, b);
                due(web.term(kind, a, b), model.term(kind, a, b));
                break;
            case 15:
                kind = about(4);
                tell("told", a, kind);
                due(web.told(a, kind), model.told(a, kind));
                break;
            case 16:
                int x = name();
                int y = name();
                int z = name();
                tell("span", a, x, y, z, wide);
                due(web.span(a, x, y, z, wide), model.span(a, x, y, z, wide));
                break;
            case 17:
                int set = below(1 << 30) & (below(9) == 0 ? -1 : (1 << states()) - 1);
                set = below(40) == 0 ? set | Integer.MIN_VALUE : set;
                tell("lines", set);
                due(web.lines(set), model.lines(set));
                break;
            case 18:
                tell("rows", a, wide);
                due(web.rows(a, wide), model.rows(a, wide));
                break;
            case 19:
                int i = below(2) == 0 ? about(8) : about(300);
                tell("row", a, i, wide);
                due(web.row(a, i, wide), model.row(a, i, wide));
                break;
            default:
                tell("apart", a, b);
                due(web.apart(a, b), model.apart(a, b));
                break;
        }
    }

    private void callKept(int which) {
        int term = recentTerm();
        int kept = about((int) model.count(2));
        int what = about(4);
        int d = about(8);
        int e = below(3) == 0 ? d : about(8);
        int i = below(3) == 0 ? about(60) : about(8);
        switch (which) {
            case 21:
                tell("keepTerm", term);
                due(web.keepTerm(term), model.keepTerm(term));
                break;
            case 22:
                tell("fresh", kept, what);
                due(web.fresh(kept, what), model.fresh(kept, what));
                break;
            case 23:
                tell("news", kept, what);
                due(web.news(kept, what), model.news(kept, what));
                break;
            case 24:
                tell("forget");
                due(web.forget(), model.forget());
                break;
            case 25:
                tell("count", what);
                due(web.count(what), model.count(what));
                break;
            case 26:
                what = about(5);
                int k = what == 4 ? about(states()) : recentTerm();
                tell("keep", d, what, k);
                due(web.keep(d, what, k), model.keep(d, what, k));
                break;
            case 27:
                what = 3 + below(2);
                what = below(9) == 0 ? about(6) : what;
                int n = below(3) == 0 ? about(61) : about(12);
                tell("make", d, what, n);
                due(web.make(d, what, n), model.make(d, what, n));
                break;
            case 28:
                tell("element", d, i);
                due(thrown(Check.element(web, d, i)), model.element(d, i));
                break;
            case 29:
                int j = about(8);
                int n2 = about(6);
                tell("copy", d, i, e, j, n2);
                due(web.copy(d, i, e, j, n2), model.copy(d, i, e, j, n2));
                break;
            default:
                if (flag()) {
                    tell("weight", d);
                    due(web.weight(d), model.weight(d));
                } else {
                    tell("toss", d);
                    due(web.toss(d), model.toss(d));
                }
                break;
        }
    }

    /** Calls by weights: those that build come oftener than those that clear away. */
    private static final int[] OFTEN = {
        0, 0, 0, 1, 1, 1, 1, 1, 1, 2, 3, 3, 3, 3, 3, 3, 3, 3, 3, 4, 5, 6, 6, 7, 7, 8, 9, 10, 11,
        12, 12, 12, 13, 13, 13, 13, 14, 14, 14, 14, 14, 14, 14, 15, 16, 16, 16, 16, 16, 16, 17, 18, 18, 18, 19, 19,
        20, 20, 21, 21, 22, 22, 23, 23, 23, 23, 25, 26, 26, 26, 27, 28, 28, 28, 29, 29, 29, 30, 30
    };

    private void run(int number) {
        for (int call = 0; call < CALLS; call++) {
            check.at("run " + number + ", call " + call);
            int which = OFTEN[below(OFTEN.length)];
            if (below(150) == 0) {
                which = 24;
            }
            boolean isMany = which == 0 && states() > 12 || which > 11 && which < 15 && terms() > 30;
            if (isMany && number % 4 != 0 && below(8) != 0) {
                which = 16 + below(5);
            }
            if (which < 12) {
                callStates(which);
            } else if (which < 21) {
                callTerms(which);
            } else {
                callKept(which);
            }
        }
    }

    public static void main(String[] args) {
        int runs = args.length > 0 ? Integer.parseInt(args[0]) : 300;
        int first = args.length > 1 ? Integer.parseInt(args[1]) : 0;
        for (int number = first; number < first + runs && check.wrong() == 0; number++) {
            new RunsTest(number).run(number);
        }
        check.end("RunsTest");
    }
}

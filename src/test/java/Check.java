/** Counts what is checked, and tells what is not as due. */
final class Check {
    private int checks;
    private int wrong;
    private String place = "";

    void at(String where) {
        place = where;
    }

    void due(String call, long got, long want) {
        checks++;
        if (got != want) {
            wrong++;
            if (wrong <= 50) {
                System.out.println(place + ": " + call + " answered " + got + ", due is " + want);
            }
        }
    }

    void due(String call, String got, String want) {
        checks++;
        if (!got.equals(want)) {
            wrong++;
            if (wrong <= 50) {
                System.out.println(place + ": " + call + " answered " + got + ", due is " + want);
            }
        }
    }

    int wrong() {
        return wrong;
    }

    /** Ends the program as the form of a test asks. */
    void end(String name) {
        System.out.println(name + " checked " + checks + " answers, " + wrong + " not as due");
        if (wrong != 0 || checks == 0) {
            System.exit(1);
        }
    }

    /** The answer of roads, or what it throws. */
    static String roads(PastWeb web, int from, int to) {
        try {
            return "" + web.roads(from, to);
        } catch (IllegalArgumentException e) {
            return "throws.IllegalArgumentException";
        }
    }

    /** The answer of element, or what it throws. */
    static String element(PastWeb web, int d, int i) {
        try {
            return "" + web.element(d, i);
        } catch (IllegalArgumentException e) {
            return "throws.IllegalArgumentException";
        } catch (IllegalStateException e) {
            return "throws.IllegalStateException";
        }
    }
}

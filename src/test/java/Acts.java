/** The ten acts by name; what is of no matter to an act is told as a number that could not be so. */
final class Acts {
    static final int MAIN = 0;
    static final int AMEND = 1;
    static final int CLOSE = 2;
    static final int LIMIT = 3;
    static final int TABLE = 4;
    static final int RECESS = 5;
    static final int ADJOURN = 6;
    static final int APPEAL = 7;

    private static final int NO_MATTER = -77;

    private Acts() { }

    static int come(DebateHouse house, int m) {
        return house.act(0, m, NO_MATTER, NO_MATTER, NO_MATTER);
    }

    static int leave(DebateHouse house, int m) {
        return house.act(1, m, NO_MATTER, NO_MATTER, NO_MATTER);
    }

    static int ask(DebateHouse house, int m) {
        return house.act(2, m, NO_MATTER, NO_MATTER, NO_MATTER);
    }

    static int call(DebateHouse house) {
        return house.act(3, NO_MATTER, NO_MATTER, NO_MATTER, NO_MATTER);
    }

    static int pass(DebateHouse house, int n) {
        return house.act(4, NO_MATTER, NO_MATTER, n, NO_MATTER);
    }

    static int yieldTo(DebateHouse house, int m) {
        return house.act(5, m, NO_MATTER, NO_MATTER, NO_MATTER);
    }

    static int move(DebateHouse house, int m, int kind, int a, int b) {
        return house.act(6, m, kind, a, b);
    }

    static int second(DebateHouse house, int m) {
        return house.act(7, m, NO_MATTER, NO_MATTER, NO_MATTER);
    }

    static int vote(DebateHouse house, int yes, int no) {
        return house.act(8, NO_MATTER, NO_MATTER, yes, no);
    }

    static int rule(DebateHouse house, int v) {
        return house.act(9, NO_MATTER, NO_MATTER, v, NO_MATTER);
    }

    /** The number of the latest act. */
    static int latest(DebateHouse house) {
        return house.state(10) - 1;
    }
}

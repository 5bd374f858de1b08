import java.util.Arrays;

/** Promises 11 (clause) and 12 (place), and the amendments of III. */
public final class PaperTest {
    private static final Due due = new Due();

    /** An appeal ranks below an amendment, so that amendments can be stacked with an appeal between. */
    private static final String RULES = "motion main rank 10 pass half;motion amend rank 20 pass half;"
        + "motion appeal rank 1 pass half;motion limit rank 9 pass half;";
    private static final int ADD = 0;
    private static final int STRIKE = 1;
    private static final int TEXT = 2;
    private static final int JOIN = 3;

    public static void main(String[] args) {
        amendments();
        refusals();
        forty();
        addToGone();
        othersToGone();
        laterOnesWereNotAhead();
        fortyAsItPasses();
        due.finish();
    }

    private static DebateHouse paperOf(int clauses, int text) {
        DebateHouse house = Due.house(RULES, 3);
        house.act(6, 0, 0, clauses, text);
        house.act(8, 0, 0, 7, 0);
        return house;
    }

    private static int amend(DebateHouse house, int kind, int number, int b) {
        return house.act(6, 0, 1, 4 * number + kind, b);
    }

    private static void vote(DebateHouse house) {
        due.is("vote", house.act(8, 0, 0, 7, 0), 0);
    }

    private static void carry(DebateHouse house, int kind, int number, int b) {
        due.is("amend " + kind + " of " + number, amend(house, kind, number, b), 0);
        vote(house);
    }

    /** A refused move and its appeal: what ranks above the appeal may be moved then. */
    private static void appeal(DebateHouse house) {
        due.is("a refused move", house.act(6, 0, 3, 0, 0), 6);
        due.is("appeal", house.act(6, 0, 7, 0, 0), 0);
    }

    private static void check(DebateHouse house, int[] numbers, int[] texts) {
        int[] gotNumbers = new int[house.state(8)];
        int[] gotTexts = new int[gotNumbers.length];
        for (int k = 0; k < gotNumbers.length; k++) {
            gotNumbers[k] = house.clause(k, 0);
            gotTexts[k] = house.clause(k, 1);
            due.is("place(" + gotNumbers[k] + ")", house.place(gotNumbers[k]), k);
        }
        due.is("numbers " + Arrays.toString(gotNumbers), Arrays.equals(gotNumbers, numbers), true);
        due.is("texts " + Arrays.toString(gotTexts), Arrays.equals(gotTexts, texts), true);
    }

    private static void amendments() {
        DebateHouse house = paperOf(3, 10);
        check(house, new int[] {0, 1, 2}, new int[] {10, 11, 12});
        carry(house, ADD, 0, 500);
        check(house, new int[] {0, 3, 1, 2}, new int[] {10, 500, 11, 12});
        carry(house, ADD, 2, 7);
        check(house, new int[] {0, 3, 1, 2, 4}, new int[] {10, 500, 11, 12, 7});
        carry(house, TEXT, 1, 999);
        check(house, new int[] {0, 3, 1, 2, 4}, new int[] {10, 500, 999, 12, 7});
        carry(house, JOIN, 0, 0);
        check(house, new int[] {0, 1, 2, 4}, new int[] {500, 999, 12, 7});
        carry(house, JOIN, 2, 0);
        check(house, new int[] {0, 1, 2}, new int[] {500, 999, 12});
        carry(house, STRIKE, 0, 0);
        check(house, new int[] {1, 2}, new int[] {999, 12});
        carry(house, ADD, 2, 3);
        check(house, new int[] {1, 2, 5}, new int[] {999, 12, 3});
        carry(house, STRIKE, 1, 0);
        carry(house, STRIKE, 2, 0);
        carry(house, STRIKE, 5, 0);
        due.is("a paper without clauses is there", house.state(8), 0);
        due.is("clause(0, 0)", house.clause(0, 0), -1);
        due.is("main with a paper", house.act(6, 0, 0, 1, 0), 6);
    }

    private static void refusals() {
        DebateHouse house = paperOf(2, 10);
        due.is("never there", amend(house, ADD, 2, 0), 6);
        due.is("never there", amend(house, STRIKE, 249, 0), 6);
        due.is("join of the last", amend(house, JOIN, 1, 0), 6);
        carry(house, STRIKE, 0, 0);
        for (int kind = 0; kind < 4; kind++) {
            due.is("gone: " + kind, amend(house, kind, 0, 0), 6);
        }
        due.is("join of the only one", amend(house, JOIN, 1, 0), 6);
        due.is("clause(-1, 0)", house.clause(-1, 0), -1);
        due.is("clause(1, 1)", house.clause(1, 1), -1);
        due.is("clause(0, 2)", house.clause(0, 2), -1);
        due.is("clause(0, -1)", house.clause(0, -1), -1);
        due.is("place(0), gone", house.place(0), -1);
        due.is("place(1)", house.place(1), 0);
        due.is("place(-1)", house.place(-1), -1);
        due.is("place(2)", house.place(2), -1);
        due.is("place far off", house.place(Integer.MAX_VALUE), -1);
    }

    private static void forty() {
        DebateHouse house = paperOf(20, 0);
        for (int n = 0; n < 20; n++) {
            carry(house, ADD, 0, n);
        }
        due.is("state(8)", house.state(8), 40);
        due.is("a 41st", amend(house, ADD, 0, 0), 6);
        carry(house, STRIKE, 39, 0);
        carry(house, ADD, 19, 5);
        due.is("place(40)", house.place(40), 39);
    }

    private static void addToGone() {
        DebateHouse house = paperOf(3, 10);
        due.is("add to 2", amend(house, ADD, 2, 77), 0);
        appeal(house);
        carry(house, JOIN, 1, 0);
        vote(house);
        vote(house);
        check(house, new int[] {0, 1, 3}, new int[] {10, 12, 77});
        due.is("add to 0", amend(house, ADD, 0, 88), 0);
        appeal(house);
        carry(house, STRIKE, 0, 0);
        vote(house);
        vote(house);
        check(house, new int[] {4, 1, 3}, new int[] {88, 12, 77});
    }

    private static void othersToGone() {
        for (int kind = 1; kind < 4; kind++) {
            DebateHouse house = paperOf(3, 10);
            due.is("amend 1", amend(house, kind, 1, 77), 0);
            appeal(house);
            carry(house, STRIKE, 1, 0);
            vote(house);
            vote(house);
            check(house, new int[] {0, 2}, new int[] {10, 12});
        }
        DebateHouse house = paperOf(2, 10);
        due.is("join 0", amend(house, JOIN, 0, 0), 0);
        appeal(house);
        carry(house, STRIKE, 1, 0);
        vote(house);
        vote(house);
        check(house, new int[] {0}, new int[] {10});
    }

    /** 0 P C: C goes, X comes behind 0, P goes: an addition to C comes behind 0, ahead of X. */
    private static void laterOnesWereNotAhead() {
        DebateHouse house = paperOf(3, 10);
        due.is("add to 2", amend(house, ADD, 2, 77), 0);
        appeal(house);
        carry(house, STRIKE, 2, 0);
        carry(house, ADD, 0, 55);
        carry(house, STRIKE, 1, 0);
        vote(house);
        vote(house);
        check(house, new int[] {0, 4, 3}, new int[] {10, 77, 55});
    }

    private static void fortyAsItPasses() {
        DebateHouse house = paperOf(20, 0);
        for (int n = 0; n < 19; n++) {
            carry(house, ADD, 0, n);
        }
        due.is("add", amend(house, ADD, 5, 77), 0);
        appeal(house);
        carry(house, ADD, 0, 99);
        vote(house);
        vote(house);
        due.is("state(8)", house.state(8), 40);
        due.is("place(40)", house.place(40), -1);
    }
}

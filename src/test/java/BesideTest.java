/** Promise 16 (beside). */
public final class BesideTest {
    private static final Due due = new Due();

    private static final String RULES = "motion main rank 10 pass half;motion amend rank 20 pass half;"
        + "motion limit rank 30 pass half;motion recess rank 40 pass half;motion table rank 50 pass half;"
        + "motion appeal rank 1 pass half;";

    public static void main(String[] args) {
        letThatIsRefused();
        refusedThatIsLet();
        nothingBeside();
        eightPending();
        yields();
        whatCantBeSo();
        mainInPlaceOfAPaper();
        addToGone();
        appealWithoutARefusal();
        appealOfWhatIsRefusedBeside();
        appealOfAnotherAct();
        appealOfNothing();
        due.finish();
    }

    private static int move(DebateHouse house, int kind, int a, int b) {
        return house.act(6, 0, kind, a, b);
    }

    private static int vote(DebateHouse house) {
        return house.act(8, 0, 0, 7, 0);
    }

    private static void letThatIsRefused() {
        DebateHouse house = Due.house(RULES, 3);
        move(house, 0, 3, 100);
        vote(house);
        house.act(4, 0, 0, 5, 0);
        int[] states = {3, 0, -1, 0, 60, 1, 0, 0, -1, 5, 6};
        for (int what = 0; what < states.length; what++) {
            due.is("beside(4, " + what + ")", house.beside(4, what), states[what]);
        }
        due.is("beside(4, 15), its RULING", house.beside(4, 15), 6);
        due.is("beside(4, 16)", house.beside(4, 16), 0);
        due.is("beside(4, 17), no such act", house.beside(4, 17), -1);
        due.is("beside(3, 15), the vote has no motion", house.beside(3, 15), 6);
        due.is("beside(5, 9)", house.beside(5, 9), 0);
        due.is("beside(5, 400)", house.beside(5, 400), 100);
        due.is("beside(5, 402)", house.beside(5, 402), 102);
        due.is("beside(5, 403)", house.beside(5, 403), -1);
        due.is("beside(4, 400)", house.beside(4, 400), -1);
        due.is("beside(5, 399)", house.beside(5, 399), -1);
        due.is("beside(5, -1)", house.beside(5, -1), -1);
        due.is("beside(5, far off)", house.beside(5, Integer.MAX_VALUE), -1);
        due.is("beside(0, 15), one not there votes", house.beside(0, 15), 1);
        due.is("beside(0, 14), one not there moves", house.beside(0, 14), 2);
        due.is("the session is as it was", house.state(8), 3);
        due.is("the session is as it was", house.ruling(4), 0);
        due.is("the session is as it was", house.passed(4), 1);
    }

    private static void refusedThatIsLet() {
        DebateHouse house = Due.house("motion main rank 10 second debate pass half;motion limit rank 30 pass half;", 3);
        move(house, 3, 9, 0);
        move(house, 0, 2, 5);
        vote(house);
        vote(house);
        house.act(7, 1, 0, 0, 0);
        due.is("ruling(4)", house.ruling(4), 6);
        due.is("beside(4, 15)", house.beside(4, 15), 0);
        due.is("beside(4, 5)", house.beside(4, 5), 2);
        due.is("beside(4, 16), it has no second", house.beside(4, 16), 6);
        due.is("beside(4, 18), its second", house.beside(4, 18), 0);
        due.is("beside(4, 4)", house.beside(4, 4), 60);
        due.is("state(4)", house.state(4), 9);
    }

    private static void nothingBeside() {
        DebateHouse house = Due.house("motion limit rank 1 pass half;", 1);
        int[] refused = {
            house.act(0, 24, 0, 0, 0), house.act(0, 0, 0, 0, 0), house.act(3, 0, 0, 0, 0), house.act(7, 0, 0, 0, 0),
            house.act(8, 0, 0, 0, 0), house.act(9, 0, 0, 0, 0), house.act(5, 0, 0, 0, 0), house.act(6, 0, 0, 1, 0),
            house.act(6, 0, 3, 1000, 0), house.act(4, 0, 0, 0, 0)};
        int[] rulings = {1, 2, 6, 6, 6, 6, 6, 6, 1, 1};
        for (int i = 0; i < refused.length; i++) {
            due.is("act " + (1 + i), refused[i], rulings[i]);
            due.is("beside(" + (1 + i) + ", 0)", house.beside(1 + i, 0), -1);
            due.is("beside(" + (1 + i) + ", 11)", house.beside(1 + i, 11), -1);
        }
        due.is("beside(-1, 0)", house.beside(-1, 0), -1);
        due.is("beside(11, 0)", house.beside(11, 0), -1);
        due.is("beside(0, 0): he comes by act 2", house.beside(0, 0), 1);
        due.is("beside(0, 13)", house.beside(0, 13), 0);
        due.is("beside(0, 12)", house.beside(0, 12), 1);
        house.act(2, 0, 0, 0, 0);
        due.is("ask again", house.act(2, 0, 0, 0, 0), 6);
        due.is("beside of an ask", house.beside(12, 0), -1);
    }

    private static void eightPending() {
        DebateHouse house = Due.house("motion limit rank 2 pass half;motion recess rank 3 pass half;"
            + "motion adjourn rank 4 pass half;motion appeal rank 1 pass half;motion main rank 5 pass half;", 3);
        move(house, 3, 0, 0);
        int[] kinds = {3, 5, 6, 7, 3, 5, 6};
        for (int kind : kinds) {
            due.is("move " + kind, move(house, kind, 5, 0), 0);
        }
        due.is("recess, not above", move(house, 5, 5, 0), 6);
        due.is("seven are pending", house.beside(11, 5), 8);
        due.is("main", move(house, 0, 5, 0), 0);
        due.is("a ninth", move(house, 5, 5, 0), 6);
        due.is("eight are pending", house.beside(13, 5), -1);
        due.is("with one more pending the main is refused", house.beside(11, 11 + 12), 6);
    }

    private static void yields() {
        DebateHouse house = Due.house("yields no;time 9;", 3);
        house.act(2, 0, 0, 0, 0);
        house.act(5, 1, 0, 0, 0);
        house.act(3, 0, 0, 0, 0);
        house.act(4, 0, 0, 2, 0);
        due.is("yield", house.act(5, 1, 0, 0, 0), 6);
        house.act(4, 0, 0, 1, 0);
        due.is("nobody has it", house.beside(4, 2), -1);
        due.is("nobody has it", house.beside(4, 0), -1);
        due.is("m has it", house.beside(7, 2), 1);
        due.is("for what is left", house.beside(7, 3), 6);
        due.is("state(2)", house.state(2), 0);
        DebateHouse once = Due.house("time 9;", 3);
        once.act(2, 0, 0, 0, 0);
        once.act(3, 0, 0, 0, 0);
        due.is("yield to who has it", once.act(5, 0, 0, 0, 0), 6);
        due.is("yield", once.act(5, 1, 0, 0, 0), 0);
        due.is("yield again", once.act(5, 2, 0, 0, 0), 6);
        due.is("as yielded: none other is let", once.beside(5, 11 + 6), 6);
        due.is("he has it still", once.beside(5, 2), 0);
        due.is("yielded twice", once.beside(7, 2), 2);
        due.is("without the first the second is let", once.beside(6, 11 + 7), 0);
        due.is("without the first the second is let", once.beside(6, 2), 2);
    }

    private static void whatCantBeSo() {
        int[][] rows = {{0, 0}, {0, 21}, {1, 0}, {3, 0}, {5, 0}};
        for (int[] row : rows) {
            DebateHouse house = Due.house(RULES, 3);
            due.is("move", move(house, row[0], row[1], 9), 6);
            due.is("vote", vote(house), 6);
            due.is("beside: the vote is let", house.beside(3, 15), 0);
            int[] states = {3, 0, -1, 0, 60, 0, 0, 0, -1, 0, 5};
            for (int what = 0; what < states.length; what++) {
                due.is("beside(3, " + what + ")", house.beside(3, what), states[what]);
            }
        }
        DebateHouse house = Due.house(RULES, 3);
        move(house, 3, 5, 0);
        due.is("table without a paper", move(house, 4, 0, 0), 6);
        vote(house);
        due.is("all pending motions go", house.beside(4, 5), 0);
        due.is("limit did not pass", house.beside(4, 4), 60);
        DebateHouse amended = Due.house(RULES, 3);
        move(amended, 0, 2, 5);
        vote(amended);
        due.is("a clause that was never there", move(amended, 1, 4 * 9, 77), 6);
        vote(amended);
        due.is("nothing is added", amended.beside(5, 8), 2);
    }

    private static void mainInPlaceOfAPaper() {
        DebateHouse house = Due.house(RULES, 3);
        move(house, 0, 4, 5);
        vote(house);
        due.is("main with a paper", move(house, 0, 2, 50), 6);
        vote(house);
        due.is("amend", move(house, 1, 2, 9), 0);
        vote(house);
        due.is("beside(5, 8)", house.beside(5, 8), 2);
        due.is("beside(5, 400)", house.beside(5, 400), 9);
        due.is("beside(5, 401)", house.beside(5, 401), 51);
        due.is("state(8)", house.state(8), 4);
    }

    private static void addToGone() {
        DebateHouse house = Due.house(RULES, 3);
        move(house, 0, 3, 10);
        vote(house);
        due.is("add to 1", move(house, 1, 4, 77), 0);
        due.is("strike 1", move(house, 1, 5, 0), 6);
        vote(house);
        vote(house);
        int[] texts = {10, 77, 12, -1};
        for (int k = 0; k < texts.length; k++) {
            due.is("beside(6, " + (400 + k) + ")", house.beside(6, 400 + k), texts[k]);
        }
        due.is("beside(6, 8)", house.beside(6, 8), 3);
        due.is("state(8)", house.state(8), 4);
    }

    /** The only refused act is let beside the session: there the appeal of it has nothing that was refused ahead. */
    private static void appealWithoutARefusal() {
        DebateHouse house = Due.house(RULES, 3);
        due.is("limit 0", move(house, 3, 0, 0), 6);
        due.is("appeal", move(house, 7, 0, 0), 0);
        due.is("vote", vote(house), 0);
        due.is("overturned(3)", house.overturned(3), 1);
        due.is("the limit is let", house.beside(3, 11 + 3), 0);
        due.is("the appeal is not", house.beside(3, 11 + 4), 6);
        due.is("the limit is voted on", house.beside(3, 11 + 5), 0);
        due.is("none is pending", house.beside(3, 5), 0);
        due.is("the session is as it was", house.ruling(4), 0);
        DebateHouse yielded = Due.house(RULES + "time 9;", 3);
        yielded.act(2, 0, 0, 0, 0);
        yielded.act(3, 0, 0, 0, 0);
        due.is("yield to who has it", yielded.act(5, 0, 0, 0, 0), 6);
        due.is("appeal", move(yielded, 7, 0, 0), 0);
        due.is("the yield is let, so the appeal is not", yielded.beside(5, 11 + 6), 6);
        due.is("none is pending", yielded.beside(5, 5), 0);
    }

    /** An act that is refused beside the session alone can be appealed there. */
    private static void appealOfWhatIsRefusedBeside() {
        DebateHouse house = Due.house(RULES, 3);
        due.is("limit", move(house, 3, 5, 0), 0);
        due.is("appeal of nothing", move(house, 7, 0, 0), 6);
        due.is("the appeal is let", house.beside(3, 11 + 4), 0);
        due.is("it alone is pending", house.beside(3, 5), 1);
        DebateHouse other = Due.house(RULES, 3);
        other.act(2, 0, 0, 0, 0);
        due.is("appeal of nothing", move(other, 7, 0, 0), 6);
        due.is("an ask can't be appealed", other.beside(3, 11 + 4), 6);
    }

    /** What an appeal means, and whether that was voted on, is of the session that is worked anew. */
    private static void appealOfAnotherAct() {
        DebateHouse house = Due.house(RULES, 3);
        due.is("limit 0", move(house, 3, 0, 0), 6);
        due.is("recess 0", move(house, 5, 0, 0), 6);
        due.is("appeal of act 4", move(house, 7, 0, 0), 0);
        due.is("vote", vote(house), 0);
        due.is("appeal again", move(house, 7, 0, 0), 6);
        due.is("the appeal means act 3", house.beside(4, 11 + 5), 0);
        due.is("of which one was voted on", house.beside(4, 11 + 7), 6);
        due.is("act 4 is meant still", house.beside(3, 11 + 5), 0);
        due.is("of which one was voted on", house.beside(3, 11 + 7), 6);
        due.is("the refused appeal is meant", house.beside(5, 11 + 7), 0);
        due.is("the first appeal is pending", house.beside(6, 11 + 7), 6);
        due.is("overturned(3)", house.overturned(3), 0);
        due.is("overturned(4)", house.overturned(4), 1);
    }

    private static void appealOfNothing() {
        DebateHouse house = Due.house(RULES, 3);
        due.is("appeal", move(house, 7, 0, 0), 6);
        due.is("vote", vote(house), 6);
        due.is("beside, it is voted on", house.beside(3, 11 + 4), 0);
        due.is("beside, none is pending", house.beside(3, 5), 0);
    }
}

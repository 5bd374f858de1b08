/** Promises 6 (act: move, second, vote, rule), 8 (passed), 10 (pending), 15 (overturned), and limit, recess and table of 9. */
public final class MotionsTest {
    private static final Due due = new Due();

    /** By rising rank: main, amend, limit, recess, table, close, adjourn; an appeal ranks below all. */
    private static final String RULES = "motion main rank 10 pass half;motion amend rank 20 pass half;"
        + "motion limit rank 30 pass quarter;motion recess rank 40 pass thirds;motion table rank 50 pass half;"
        + "motion close rank 60 pass half;motion adjourn rank 70 pass half;motion appeal rank 5 pass half;";

    public static void main(String[] args) {
        moveRefusals();
        floorAndRank();
        eightPending();
        seconds();
        debates();
        ways();
        voters();
        chair();
        effects();
        tabling();
        appeals();
        appealOfYield();
        due.finish();
    }

    private static void moveRefusals() {
        DebateHouse house = Due.house(RULES, 3);
        due.is("no such member", Acts.move(house, 24, 0, 1, 0), 1);
        due.is("no such kind", Acts.move(house, 0, 8, 1, 0), 1);
        due.is("no such kind", Acts.move(house, 0, -1, 1, 0), 1);
        due.is("a below 0", Acts.move(house, 0, 0, -1, 0), 1);
        due.is("a above 999", Acts.move(house, 0, 0, 1000, 0), 1);
        due.is("b below 0", Acts.move(house, 0, 0, 1, -1), 1);
        due.is("b above 999", Acts.move(house, 0, 0, 1, 1000), 1);
        due.is("not there", Acts.move(house, 3, 0, 1, 0), 2);
        due.is("main of 0", Acts.move(house, 0, 0, 0, 0), 6);
        due.is("main of 21", Acts.move(house, 0, 0, 21, 0), 6);
        due.is("amend without a paper", Acts.move(house, 0, 1, 0, 0), 6);
        due.is("close without a paper", Acts.move(house, 0, 2, 0, 0), 6);
        due.is("table without a paper", Acts.move(house, 0, 4, 0, 0), 6);
        due.is("limit 0", Acts.move(house, 0, 3, 0, 0), 6);
        due.is("recess 0", Acts.move(house, 0, 5, 0, 0), 6);
        due.is("state(5)", house.state(5), 0);
        due.is("main of 20", Acts.move(house, 0, 0, 20, 999), 0);
        due.is("close without a paper, main pending", Acts.move(house, 0, 2, 0, 0), 6);
        due.is("vote", Acts.vote(house, 1, 0), 0);
        due.is("state(8)", house.state(8), 20);
        due.is("text of the last", house.clause(19, 1), 1018);
        due.is("main with a paper", Acts.move(house, 0, 0, 1, 0), 6);
        due.is("close, none is pending", Acts.move(house, 0, 2, 0, 0), 6);
        due.is("limit 999", Acts.move(house, 0, 3, 999, 999), 0);
        due.is("close", Acts.move(house, 0, 2, 0, 0), 0);
        DebateHouse bare = Due.house("motion main rank 1 pass half;", 1);
        due.is("a kind that is not let", Acts.move(bare, 0, 6, 0, 0), 6);
        due.is("a kind that is let", Acts.move(bare, 0, 0, 1, 0), 0);
    }

    private static void floorAndRank() {
        DebateHouse house = Due.house(RULES, 3);
        house.act(2, 1, 0, 0, 0);
        house.act(3, 0, 0, 0, 0);
        due.is("someone else has the floor", Acts.move(house, 0, 3, 5, 0), 6);
        due.is("appeal: also then", Acts.move(house, 0, 7, 0, 0), 0);
        due.is("another appeal", Acts.move(house, 1, 7, 0, 0), 6);
        due.is("above the appeal's rank", Acts.move(house, 1, 0, 2, 7), 0);
        due.is("the same rank", Acts.move(house, 1, 0, 2, 7), 6);
        due.is("a lower rank behind a higher", Acts.move(house, 1, 5, 9, 0), 0);
        due.is("limit is not above recess", Acts.move(house, 1, 3, 9, 0), 6);
        int[][] rows = {{7, 0, 0, 0}, {0, 1, 2, 7}, {5, 1, 9, 0}};
        for (int k = 0; k < rows.length; k++) {
            for (int what = 0; what < 4; what++) {
                due.is("pending(" + k + ", " + what + ")", house.pending(k, what), rows[k][what]);
            }
            due.is("pending(" + k + ", 4)", house.pending(k, 4), 1);
            due.is("pending(" + k + ", 5)", house.pending(k, 5), 1);
            due.is("pending(" + k + ", 6)", house.pending(k, 6), -1);
            due.is("pending(" + k + ", -1)", house.pending(k, -1), -1);
        }
        due.is("pending(3, 0)", house.pending(3, 0), -1);
        due.is("pending(-1, 0)", house.pending(-1, 0), -1);
        house.act(1, 1, 0, 0, 0);
        due.is("his motions stay", house.state(5), 3);
    }

    private static void eightPending() {
        DebateHouse house = Due.house(RULES, 3);
        due.is("main", Acts.move(house, 0, 0, 4, 0), 0);
        due.is("vote", Acts.vote(house, 7, 0), 0);
        due.is("a refused one", Acts.move(house, 0, 3, 0, 0), 6);
        int[][] moves = {{1, 0}, {3, 5}, {5, 5}, {4, 0}, {7, 0}, {1, 0}, {3, 5}, {5, 5}};
        for (int[] one : moves) {
            due.is("move " + one[0], Acts.move(house, 0, one[0], one[1], 0), 0);
        }
        due.is("a ninth", Acts.move(house, 0, 4, 0, 0), 6);
        due.is("state(5)", house.state(5), 8);
        due.is("vote", Acts.vote(house, 0, 7), 0);
        due.is("an eighth again", Acts.move(house, 0, 4, 0, 0), 0);
    }

    private static void seconds() {
        DebateHouse house = Due.house("motion main rank 1 second pass half;motion limit rank 2 pass half;", 3);
        due.is("second, none is pending", house.act(7, 0, 0, 0, 0), 6);
        Acts.move(house, 0, 0, 1, 0);
        due.is("pending(0, 4)", house.pending(0, 4), 0);
        due.is("vote without its second", Acts.vote(house, 7, 0), 6);
        due.is("second by the mover", house.act(7, 0, 0, 0, 0), 6);
        due.is("second by one not there", house.act(7, 3, 0, 0, 0), 2);
        due.is("second by none", house.act(7, -1, 0, 0, 0), 1);
        due.is("second", house.act(7, 1, 9, -9, -9), 0);
        due.is("pending(0, 4)", house.pending(0, 4), 1);
        due.is("second again", house.act(7, 2, 0, 0, 0), 6);
        Acts.move(house, 0, 3, 1, 0);
        due.is("it needs no second", house.act(7, 1, 0, 0, 0), 6);
        Acts.vote(house, 0, 0);
        due.is("vote", Acts.vote(house, 7, 0), 0);
    }

    private static void debates() {
        DebateHouse house = Due.house("motion main rank 1 pass half;motion amend rank 2 debate pass half;"
            + "motion limit rank 3 debate pass half;motion close rank 4 debate pass half;", 3);
        Acts.move(house, 0, 0, 3, 0);
        Acts.vote(house, 7, 0);
        house.act(2, 0, 0, 0, 0);
        Acts.move(house, 0, 1, 1, 0);
        due.is("pending(0, 5)", house.pending(0, 5), 0);
        due.is("vote without debate", Acts.vote(house, 7, 0), 6);
        Acts.move(house, 0, 3, 5, 0);
        Acts.move(house, 0, 2, 0, 0);
        due.is("vote on close without debate", Acts.vote(house, 7, 0), 6);
        due.is("call", house.act(3, 0, 0, 0, 0), 0);
        due.is("only the highest is debated", house.pending(0, 5), 0);
        due.is("only the highest is debated", house.pending(1, 5), 0);
        due.is("the highest", house.pending(2, 5), 1);
        due.is("a call that is refused", house.act(3, 0, 0, 0, 0), 6);
        due.is("vote on close", Acts.vote(house, 7, 0), 0);
        due.is("pending(0, 5)", house.pending(0, 5), 1);
        due.is("pending(1, 5)", house.pending(1, 5), 1);
        due.is("vote", Acts.vote(house, 0, 7), 0);
        due.is("vote", Acts.vote(house, 7, 0), 0);
        due.is("state(8)", house.state(8), 2);
        Acts.move(house, 0, 1, 4, 0);
        due.is("close was for those then pending", house.pending(0, 5), 0);
    }

    /** Each row: how many yes, how many no, whether it passes by half, thirds, quarter. */
    private static void ways() {
        int[][] rows = {
            {0, 0, 0, 0, 0}, {1, 0, 1, 1, 1}, {0, 1, 0, 0, 0}, {1, 1, 0, 0, 1}, {2, 1, 1, 1, 1}, {3, 2, 1, 0, 1},
            {4, 2, 1, 1, 1}, {1, 3, 0, 0, 0}, {1, 2, 0, 0, 1}, {2, 6, 0, 0, 0}, {3, 6, 0, 0, 1}, {12, 12, 0, 0, 1},
            {13, 11, 1, 0, 1}, {16, 8, 1, 1, 1}, {24, 0, 1, 1, 1}};
        String[] words = {"half", "thirds", "quarter"};
        for (int way = 0; way < 3; way++) {
            DebateHouse house = Due.house("motion limit rank 1 pass " + words[way] + ";", 24);
            for (int[] row : rows) {
                Acts.move(house, 0, 3, 5, 0);
                int yes = (1 << row[0]) - 1;
                int no = ((1 << row[1]) - 1) << row[0];
                int act = house.state(10);
                due.is("vote", Acts.vote(house, yes, no), 0);
                due.is(words[way] + " " + row[0] + " to " + row[1], house.passed(act), row[2 + way]);
                due.is("it is pending no more", house.state(5), 0);
            }
        }
    }

    private static void voters() {
        DebateHouse house = Due.house(RULES, 3);
        due.is("vote, no motion", Acts.vote(house, 7, 0), 6);
        Acts.move(house, 0, 3, 5, 0);
        due.is("one not there", Acts.vote(house, 8, 0), 1);
        due.is("one not there", Acts.vote(house, 0, 8), 1);
        due.is("one in both", Acts.vote(house, 3, 2), 1);
        due.is("no such member", Acts.vote(house, 1 << 24, 0), 1);
        due.is("no such member", Acts.vote(house, 0, 1 << 24), 1);
        due.is("below 0", Acts.vote(house, -1, 0), 1);
        due.is("below 0", Acts.vote(house, 0, Integer.MIN_VALUE), 1);
        due.is("rule: not of the chair", house.act(9, 0, 0, 1, 0), 6);
        due.is("passed of a refused vote", house.passed(house.state(10) - 1), -1);
        due.is("passed of a move", house.passed(4), -1);
        due.is("passed(-1)", house.passed(-1), -1);
        due.is("passed of no act", house.passed(house.state(10)), -1);
        due.is("vote", Acts.vote(house, 0, 0), 0);
        due.is("state(4)", house.state(4), 60);
    }

    private static void chair() {
        DebateHouse house = Due.house("motion limit rank 1 second debate pass chair;", 3);
        due.is("rule, no motion", house.act(9, 0, 0, 1, 0), 6);
        Acts.move(house, 0, 3, 5, 0);
        due.is("rule without a second", house.act(9, 0, 0, 1, 0), 6);
        house.act(7, 1, 0, 0, 0);
        due.is("rule without debate", house.act(9, 0, 0, 1, 0), 6);
        house.act(2, 1, 0, 0, 0);
        house.act(3, 0, 0, 0, 0);
        due.is("vote on what the chair rules", Acts.vote(house, 7, 0), 6);
        due.is("rule 2", house.act(9, 0, 0, 2, 0), 1);
        due.is("rule -1", house.act(9, 0, 0, -1, 0), 1);
        int act = house.state(10);
        due.is("rule 0", house.act(9, 99, 99, 0, 99), 0);
        due.is("passed", house.passed(act), 0);
        due.is("state(4)", house.state(4), 60);
        Acts.move(house, 1, 3, 5, 0);
        house.act(7, 0, 0, 0, 0);
        house.act(4, 0, 0, 60, 0);
        house.act(2, 1, 0, 0, 0);
        house.act(3, 0, 0, 0, 0);
        due.is("rule 1", house.act(9, 0, 0, 1, 0), 0);
        due.is("passed", house.passed(house.state(10) - 1), 1);
        due.is("state(4)", house.state(4), 5);
        due.is("the floor's time is as it was", house.state(3), 60);
        due.is("told(10)", house.told(10), 60);
    }

    private static void effects() {
        DebateHouse house = Due.house(RULES, 3);
        house.act(2, 0, 0, 0, 0);
        house.act(3, 0, 0, 0, 0);
        Acts.move(house, 0, 3, 9, 0);
        Acts.move(house, 0, 5, 40, 0);
        due.is("vote", Acts.vote(house, 7, 0), 0);
        due.is("state(6)", house.state(6), 40);
        due.is("vote in a recess", Acts.vote(house, 7, 0), 5);
        house.act(4, 0, 0, 39, 0);
        due.is("state(6)", house.state(6), 1);
        due.is("the floor's time falls too", house.state(3), 21);
        house.act(4, 0, 0, 1, 0);
        due.is("vote", Acts.vote(house, 7, 0), 0);
        due.is("state(4)", house.state(4), 9);
        Acts.move(house, 0, 3, 9, 0);
        Acts.move(house, 0, 6, 0, 0);
        due.is("vote", Acts.vote(house, 7, 0), 0);
        due.is("state(7)", house.state(7), 1);
        due.is("no motion is pending", house.state(5), 0);
        due.is("vote when it is over", Acts.vote(house, 7, 0), 3);
        due.is("move when it is over", Acts.move(house, 0, 3, 1, 0), 3);
        due.is("second when it is over", house.act(7, 1, 0, 0, 0), 3);
    }

    private static void tabling() {
        DebateHouse house = Due.house(RULES, 3);
        Acts.move(house, 0, 0, 3, 50);
        Acts.vote(house, 7, 0);
        Acts.move(house, 0, 1, 1, 0);
        Acts.move(house, 0, 3, 8, 0);
        Acts.move(house, 0, 4, 0, 0);
        due.is("vote", Acts.vote(house, 7, 0), 0);
        due.is("state(8)", house.state(8), -1);
        due.is("state(5)", house.state(5), 0);
        due.is("clause(0, 0)", house.clause(0, 0), -1);
        due.is("clause(0, 1)", house.clause(0, 1), -1);
        due.is("place(0)", house.place(0), -1);
        due.is("a new main", Acts.move(house, 0, 0, 2, 70), 0);
        Acts.vote(house, 7, 0);
        due.is("numbers from 0 on", house.clause(0, 0), 0);
        due.is("clause(1, 1)", house.clause(1, 1), 71);
        due.is("place(2)", house.place(2), -1);
    }

    private static void appeals() {
        DebateHouse house = Due.house(RULES, 3);
        due.is("appeal of nothing", Acts.move(house, 0, 7, 0, 0), 6);
        due.is("appeal of that appeal", Acts.move(house, 0, 7, 0, 0), 0);
        due.is("vote", Acts.vote(house, 0, 7), 0);
        due.is("overturned(3)", house.overturned(3), 0);
        due.is("it was voted on", Acts.move(house, 0, 7, 0, 0), 6);
        due.is("a refusal by 6 that is no move or yield", house.act(3, 0, 0, 0, 0), 6);
        due.is("the latest is the refused appeal", Acts.move(house, 0, 7, 0, 0), 0);
        due.is("vote", Acts.vote(house, 7, 0), 0);
        due.is("overturned(6)", house.overturned(6), 1);
        due.is("overturned(7)", house.overturned(7), 0);
        due.is("its RULING is as it was", house.ruling(6), 6);
        due.is("overturned(-1)", house.overturned(-1), -1);
        due.is("overturned(99)", house.overturned(99), -1);
        due.is("a refusal by 1", Acts.move(house, 0, 0, 1000, 0), 1);
        due.is("that is not meant", Acts.move(house, 0, 7, 0, 0), 6);
    }

    private static void appealOfYield() {
        DebateHouse house = Due.house(RULES, 3);
        due.is("yield", house.act(5, 1, 0, 0, 0), 6);
        due.is("appeal", Acts.move(house, 0, 7, 0, 0), 0);
        due.is("move refused while it is pending", Acts.move(house, 0, 3, 0, 0), 6);
        due.is("vote", Acts.vote(house, 7, 0), 0);
        due.is("the yield was meant", house.overturned(3), 1);
        due.is("the move was not", house.overturned(5), 0);
        due.is("now it is", Acts.move(house, 0, 7, 0, 0), 0);
    }
}

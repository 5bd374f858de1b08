/**
 * The boundary cases of Terms II as to motions and votes, and of promises 6 (act: move, second, vote, rule), 8 (passed),
 * 10 (pending) and 15 (overturned), a sentence at a time.
 */
public final class EdgesMotionsTest {
    private static final Due due = new Due();
    private static final int MIN = Integer.MIN_VALUE;
    private static final int MAX = Integer.MAX_VALUE;
    private static final String[] KINDS = {"main", "amend", "close", "limit", "table", "recess", "adjourn", "appeal"};
    private static final int[] RANKS = {10, 20, 60, 30, 50, 40, 70, 5};

    public static void main(String[] args) {
        numbersOfMoves();
        kindsNotLet();
        rankNotAbove();
        appealWhateverRanks();
        noOtherAppeal();
        someoneElseHasTheFloor();
        eightPending();
        paperThereOrNot();
        closeNeedsBoth();
        zeroes();
        clausesOfMain();
        appealWithoutRefusal();
        latestIsMeant();
        appealVotedOn();
        appealNotVotedOn();
        seconds();
        debates();
        closing();
        votesNotAsTold();
        votesNotInOrder();
        ways();
        rulesOfTheChair();
        pendingNoMore();
        whatPassed();
        onlyItsOwn();
        tables();
        adjourns();
        mainInPlaceOfAPaper();
        passed();
        pending();
        overturned();
        due.finish();
    }

    /** Rules of every KIND, by half, but the one that is left out. */
    private static String rulesWithout(int left) {
        StringBuilder text = new StringBuilder();
        for (int kind = 0; kind < 8; kind++) {
            if (kind != left) {
                text.append("motion ").append(KINDS[kind]).append(" rank ").append(RANKS[kind]).append(" pass half;");
            }
        }
        return text.toString();
    }

    private static DebateHouse house() {
        return Due.house(rulesWithout(-1), 3);
    }

    private static void carry(DebateHouse house, int kind, int a, int b) {
        due.is("move " + KINDS[kind], Acts.move(house, 0, kind, a, b), 0);
        due.is("vote", Acts.vote(house, 7, 0), 0);
    }

    private static DebateHouse houseWithPaper() {
        DebateHouse house = house();
        carry(house, Acts.MAIN, 4, 100);
        return house;
    }

    private static void numbersOfMoves() {
        due.by("move m KIND a b (a, b 0 to 999); 1: a number is not as told");
        DebateHouse house = house();
        for (int bad : new int[] {-1, 1000, 1001, MIN, MAX}) {
            due.is("a is " + bad, Acts.move(house, 0, Acts.ADJOURN, bad, 0), 1);
            due.is("b is " + bad, Acts.move(house, 0, Acts.ADJOURN, 0, bad), 1);
        }
        for (int kind : new int[] {-1, 8, 9, MIN, MAX}) {
            due.is("no such KIND: " + kind, Acts.move(house, 0, kind, 1, 1), 1);
        }
        due.is("a, b are 999", Acts.move(house, 0, Acts.ADJOURN, 999, 999), 0);
        due.is("pending(0, 2)", house.pending(0, 2), 999);
        due.is("pending(0, 3)", house.pending(0, 3), 999);
        due.is("vote", Acts.vote(house, 0, 7), 0);
        due.is("a, b are 0", Acts.move(house, 0, Acts.ADJOURN, 0, 0), 0);
        due.is("pending(0, 2)", house.pending(0, 2), 0);
        due.is("pending(0, 3)", house.pending(0, 3), 0);
    }

    private static void kindsNotLet() {
        due.by("6 the rules don't let the KIND");
        for (int kind = 0; kind < 8; kind++) {
            for (int left : new int[] {-1, kind}) {
                DebateHouse house = Due.house(rulesWithout(left), 3);
                if (kind == Acts.AMEND || kind == Acts.CLOSE || kind == Acts.TABLE) {
                    carry(house, Acts.MAIN, 4, 0);
                } else {
                    due.is("a yield that is refused", Acts.yieldTo(house, 0), 6);
                }
                if (kind == Acts.CLOSE) {
                    due.is("limit, for close", Acts.move(house, 0, Acts.LIMIT, 5, 0), 0);
                }
                due.is(KINDS[kind] + (left < 0 ? "" : " left out"), Acts.move(house, 0, kind, 5, 5), left < 0 ? 0 : 6);
            }
        }
    }

    private static void rankNotAbove() {
        due.by("its rank is not above that of the highest pending one");
        for (int rank = 4; rank <= 6; rank++) {
            DebateHouse house = Due.house("motion limit rank 5 pass half;motion recess rank " + rank + " pass half;", 1);
            due.is("limit, none is pending", Acts.move(house, 0, Acts.LIMIT, 1, 0), 0);
            due.is("limit on itself", Acts.move(house, 0, Acts.LIMIT, 1, 0), 6);
            due.is("recess of rank " + rank + " on 5", Acts.move(house, 0, Acts.RECESS, 1, 0), rank > 5 ? 0 : 6);
        }
        DebateHouse house = Due.house("motion limit rank 1 pass half;motion recess rank 99 pass half;", 1);
        due.is("rank 1", Acts.move(house, 0, Acts.LIMIT, 1, 0), 0);
        due.is("rank 99 on 1", Acts.move(house, 0, Acts.RECESS, 1, 0), 0);
        due.is("rank 1 on 99", Acts.move(house, 0, Acts.LIMIT, 1, 0), 6);
        due.is("vote on the highest", Acts.vote(house, 0, 1), 0);
        due.is("rank 1 on 1", Acts.move(house, 0, Acts.LIMIT, 1, 0), 6);
        due.is("rank 99 on 1 again", Acts.move(house, 0, Acts.RECESS, 1, 0), 0);
    }

    private static void appealWhateverRanks() {
        due.by("appeal: whatever ranks");
        for (int rank : new int[] {1, 50, 99}) {
            DebateHouse house = Due.house("motion limit rank 50 pass half;motion recess rank 51 pass half;motion appeal rank "
                + rank + " pass half;", 1);
            Acts.move(house, 0, Acts.LIMIT, 0, 0);
            due.is("limit", Acts.move(house, 0, Acts.LIMIT, 1, 0), 0);
            due.is("appeal of rank " + rank + " on 50", Acts.move(house, 0, Acts.APPEAL, 0, 0), 0);
            due.is("the highest one is the appeal: 50", Acts.move(house, 0, Acts.LIMIT, 2, 0), rank < 50 ? 0 : 6);
            due.is("recess of rank 51", Acts.move(house, 0, Acts.RECESS, 2, 0), rank < 51 ? 0 : 6);
        }
    }

    private static void noOtherAppeal() {
        due.by("but no other appeal pending");
        DebateHouse house = house();
        Acts.yieldTo(house, 0);
        due.is("appeal", Acts.move(house, 0, Acts.APPEAL, 0, 0), 0);
        due.is("another one, as it is the highest", Acts.move(house, 1, Acts.APPEAL, 0, 0), 6);
        due.is("limit", Acts.move(house, 0, Acts.LIMIT, 1, 0), 0);
        due.is("another one, as it is below", Acts.move(house, 1, Acts.APPEAL, 0, 0), 6);
        due.is("vote on limit", Acts.vote(house, 0, 7), 0);
        due.is("another one", Acts.move(house, 1, Acts.APPEAL, 0, 0), 6);
        due.is("vote on the appeal", Acts.vote(house, 0, 7), 0);
        due.is("another one, of what was refused since", Acts.move(house, 1, Acts.APPEAL, 0, 0), 0);
    }

    private static void someoneElseHasTheFloor() {
        due.by("someone else has the FLOOR (appeal: also then)");
        DebateHouse house = Due.house(rulesWithout(-1) + "time 9;", 3);
        Acts.ask(house, 1);
        due.is("nobody has it", Acts.move(house, 0, Acts.LIMIT, 1, 0), 0);
        Acts.call(house);
        due.is("someone else has it", Acts.move(house, 0, Acts.RECESS, 1, 0), 6);
        due.is("he has it", Acts.move(house, 1, Acts.RECESS, 1, 0), 0);
        Acts.yieldTo(house, 2);
        due.is("he had it", Acts.move(house, 1, Acts.ADJOURN, 1, 0), 6);
        due.is("an appeal also then", Acts.move(house, 1, Acts.APPEAL, 1, 0), 0);
        due.is("by a yield he has it", Acts.move(house, 2, Acts.ADJOURN, 1, 0), 0);
        due.is("vote", Acts.vote(house, 0, 7), 0);
        due.is("second, vote are of all: vote", Acts.vote(house, 0, 7), 0);
        Acts.pass(house, 8);
        due.is("someone else has it for a tick", Acts.move(house, 0, Acts.ADJOURN, 1, 0), 6);
        Acts.pass(house, 1);
        due.is("nobody has it", Acts.move(house, 0, Acts.ADJOURN, 1, 0), 0);
    }

    private static void eightPending() {
        due.by("eight are pending");
        DebateHouse house = houseWithPaper();
        Acts.yieldTo(house, 0);
        int[] kinds = {Acts.AMEND, Acts.LIMIT, Acts.RECESS, Acts.APPEAL, Acts.AMEND, Acts.LIMIT, Acts.RECESS, Acts.TABLE};
        for (int n = 0; n < kinds.length; n++) {
            due.is("motions pending", house.state(5), n);
            due.is("move " + KINDS[kinds[n]], Acts.move(house, 0, kinds[n], 1, 0), 0);
        }
        due.is("motions pending", house.state(5), 8);
        due.is("a ninth of a higher rank", Acts.move(house, 0, Acts.CLOSE, 1, 0), 6);
        due.is("pending(7, 0)", house.pending(7, 0), Acts.TABLE);
        due.is("pending(8, 0)", house.pending(8, 0), -1);
        due.is("vote", Acts.vote(house, 0, 7), 0);
        due.is("an eighth", Acts.move(house, 0, Acts.CLOSE, 1, 0), 0);
        due.is("a ninth", Acts.move(house, 0, Acts.ADJOURN, 1, 0), 6);
    }

    private static void paperThereOrNot() {
        due.by("main: a paper is there; amend, close, table: no paper is there");
        DebateHouse house = house();
        due.is("amend without", Acts.move(house, 0, Acts.AMEND, 1, 0), 6);
        due.is("table without", Acts.move(house, 0, Acts.TABLE, 0, 0), 6);
        due.is("close without", Acts.move(house, 0, Acts.CLOSE, 0, 0), 6);
        due.is("main without", Acts.move(house, 0, Acts.MAIN, 1, 0), 0);
        due.is("main is pending, the paper not there: amend", Acts.move(house, 0, Acts.AMEND, 1, 0), 6);
        due.is("table", Acts.move(house, 0, Acts.TABLE, 0, 0), 6);
        due.is("vote against it", Acts.vote(house, 0, 7), 0);
        due.is("table as it did not pass", Acts.move(house, 0, Acts.TABLE, 0, 0), 6);
        carry(house, Acts.MAIN, 1, 0);
        due.is("main with", Acts.move(house, 0, Acts.MAIN, 1, 0), 6);
        carry(house, Acts.AMEND, 1, 0);
        due.is("a paper of no CLAUSES is there", house.state(8), 0);
        due.is("main with", Acts.move(house, 0, Acts.MAIN, 1, 0), 6);
        due.is("table with", Acts.move(house, 0, Acts.TABLE, 0, 0), 0);
        due.is("vote", Acts.vote(house, 7, 0), 0);
        due.is("amend as it is gone", Acts.move(house, 0, Acts.AMEND, 0, 0), 6);
        due.is("table as it is gone", Acts.move(house, 0, Acts.TABLE, 0, 0), 6);
        due.is("main as it is gone", Acts.move(house, 0, Acts.MAIN, 1, 0), 0);
    }

    private static void closeNeedsBoth() {
        due.by("close: no motion is pending, too");
        DebateHouse house = house();
        due.is("no paper, none pending", Acts.move(house, 0, Acts.CLOSE, 0, 0), 6);
        Acts.move(house, 0, Acts.LIMIT, 1, 0);
        due.is("no paper, one pending", Acts.move(house, 0, Acts.CLOSE, 0, 0), 6);
        Acts.vote(house, 0, 7);
        carry(house, Acts.MAIN, 1, 0);
        due.is("a paper, none pending", Acts.move(house, 0, Acts.CLOSE, 0, 0), 6);
        Acts.move(house, 0, Acts.LIMIT, 1, 0);
        due.is("a paper, one pending", Acts.move(house, 0, Acts.CLOSE, 0, 0), 0);
    }

    private static void zeroes() {
        due.by("limit: a is 0; recess: a is 0");
        DebateHouse house = house();
        due.is("limit 0", Acts.move(house, 0, Acts.LIMIT, 0, 5), 6);
        due.is("recess 0", Acts.move(house, 0, Acts.RECESS, 0, 5), 6);
        carry(house, Acts.LIMIT, 1, 0);
        due.is("TIME", house.state(4), 1);
        carry(house, Acts.LIMIT, 999, 0);
        due.is("TIME", house.state(4), 999);
        carry(house, Acts.RECESS, 1, 0);
        due.is("RECESS", house.state(6), 1);
        Acts.pass(house, 1);
        carry(house, Acts.RECESS, 999, 0);
        due.is("RECESS", house.state(6), 999);
    }

    private static void clausesOfMain() {
        due.by("1 to 20 at most: a above 20 is 6 as it is moved, 0 too");
        for (int a : new int[] {0, 1, 20, 21, 999}) {
            DebateHouse house = house();
            boolean can = a >= 1 && a <= 20;
            due.is("main of " + a, Acts.move(house, 0, Acts.MAIN, a, 999), can ? 0 : 6);
            due.is("vote", Acts.vote(house, 7, 0), can ? 0 : 6);
            due.is("CLAUSES", house.state(8), can ? a : -1);
            due.by("with texts b, b + 1, ..");
            for (int k = 0; can && k < a; k++) {
                due.is("clause(" + k + ", 0)", house.clause(k, 0), k);
                due.is("clause(" + k + ", 1)", house.clause(k, 1), 999 + k);
            }
            due.is("clause(a, 0)", house.clause(a, 0), -1);
        }
    }

    private static void appealWithoutRefusal() {
        due.by("appeal: no act ahead was refused by 6 (move or yield)");
        DebateHouse house = Due.house("quorum 1;motion recess rank 1 second pass half;motion appeal rank 2 pass half;", 0);
        due.is("yield by 2", Acts.yieldTo(house, 0), 2);
        Acts.come(house, 0);
        Acts.come(house, 1);
        due.is("ask", Acts.ask(house, 0), 0);
        due.is("ask by 6", Acts.ask(house, 0), 6);
        Acts.leave(house, 0);
        due.is("call by 6", Acts.call(house), 6);
        due.is("second by 6", Acts.second(house, 1), 6);
        due.is("vote by 6", Acts.vote(house, 2, 0), 6);
        due.is("rule by 6", Acts.rule(house, 1), 6);
        due.is("move by 1", Acts.move(house, 1, Acts.RECESS, 1000, 0), 1);
        due.is("move by 2", Acts.move(house, 0, Acts.RECESS, 1, 0), 2);
        due.is("yield by 1", Acts.yieldTo(house, 24), 1);
        due.is("recess", Acts.move(house, 1, Acts.RECESS, 1, 0), 0);
        Acts.come(house, 0);
        Acts.second(house, 0);
        Acts.vote(house, 3, 0);
        due.is("move by 5", Acts.move(house, 1, Acts.RECESS, 1, 0), 5);
        due.is("yield by 5", Acts.yieldTo(house, 1), 5);
        Acts.pass(house, 1);
        due.is("appeal of none of these", Acts.move(house, 1, Acts.APPEAL, 0, 0), 6);
        due.is("appeal of that appeal, a move", Acts.move(house, 1, Acts.APPEAL, 0, 0), 0);
        DebateHouse other = Due.house("motion appeal rank 2 pass half;", 1);
        due.is("yield by 6", Acts.yieldTo(other, 0), 6);
        due.is("appeal of it", Acts.move(other, 0, Acts.APPEAL, 0, 0), 0);
    }

    private static void latestIsMeant() {
        due.by("the latest such is meant");
        DebateHouse house = house();
        due.is("act 3: yield", Acts.yieldTo(house, 0), 6);
        due.is("act 4: limit 0", Acts.move(house, 0, Acts.LIMIT, 0, 0), 6);
        due.is("act 5: appeal", Acts.move(house, 0, Acts.APPEAL, 0, 0), 0);
        due.is("act 6: yield as it is pending", Acts.yieldTo(house, 0), 6);
        due.is("vote", Acts.vote(house, 7, 0), 0);
        int[] overturned = {0, 0, 0, 0, 1, 0, 0, 0};
        for (int i = 0; i < overturned.length; i++) {
            due.is("overturned(" + i + ")", house.overturned(i), overturned[i]);
        }
        due.is("act 8: appeal of act 6", Acts.move(house, 0, Acts.APPEAL, 0, 0), 0);
        due.is("vote", Acts.vote(house, 7, 0), 0);
        due.is("overturned(6)", house.overturned(6), 1);
        due.is("overturned(3)", house.overturned(3), 0);
        due.is("ruling(4) is as it was", house.ruling(4), 6);
        due.is("ruling(6) is as it was", house.ruling(6), 6);
        due.is("TIME is as it was", house.state(4), 60);
    }

    private static void appealVotedOn() {
        due.by("or an appeal of it was voted on already");
        for (int passes = 0; passes < 2; passes++) {
            DebateHouse house = house();
            due.is("act 3: limit 0", Acts.move(house, 0, Acts.LIMIT, 0, 0), 6);
            due.is("act 4: recess 0", Acts.move(house, 0, Acts.RECESS, 0, 0), 6);
            due.is("appeal of act 4", Acts.move(house, 0, Acts.APPEAL, 0, 0), 0);
            due.is("vote", Acts.vote(house, 7 * passes, 7 - 7 * passes), 0);
            due.is("overturned(4)", house.overturned(4), passes);
            due.is("act 7: appeal again", Acts.move(house, 1, Acts.APPEAL, 0, 0), 6);
            due.is("act 8: appeal of act 7, the latest", Acts.move(house, 1, Acts.APPEAL, 0, 0), 0);
            due.is("vote", Acts.vote(house, 7, 0), 0);
            due.is("overturned(7)", house.overturned(7), 1);
            due.is("overturned(3)", house.overturned(3), 0);
            due.is("overturned(4)", house.overturned(4), passes);
        }
        DebateHouse chair = Due.house("motion appeal rank 1 pass chair;", 1);
        Acts.yieldTo(chair, 0);
        due.is("appeal", Acts.move(chair, 0, Acts.APPEAL, 0, 0), 0);
        due.is("rule", Acts.rule(chair, 1), 0);
        due.is("overturned(1)", chair.overturned(1), 1);
        due.is("appeal again", Acts.move(chair, 0, Acts.APPEAL, 0, 0), 6);
    }

    private static void appealNotVotedOn() {
        due.by("an appeal that is gone with the paper was not voted on");
        DebateHouse house = houseWithPaper();
        due.is("act 5: yield", Acts.yieldTo(house, 0), 6);
        due.is("appeal", Acts.move(house, 0, Acts.APPEAL, 0, 0), 0);
        carry(house, Acts.TABLE, 0, 0);
        due.is("none is pending", house.state(5), 0);
        due.is("appeal of it again", Acts.move(house, 0, Acts.APPEAL, 0, 0), 0);
        due.is("vote", Acts.vote(house, 7, 0), 0);
        due.is("overturned(5)", house.overturned(5), 1);
    }

    private static void seconds() {
        due.by("second m: of the highest pending one: 6 none is, it needs no second, it has one, or m moved it");
        DebateHouse house = Due.house("motion limit rank 1 second pass half;motion recess rank 2 pass half;"
            + "motion adjourn rank 3 second pass half;", 3);
        due.is("none is", Acts.second(house, 0), 6);
        Acts.move(house, 0, Acts.LIMIT, 5, 0);
        due.is("m moved it", Acts.second(house, 0), 6);
        Acts.move(house, 1, Acts.RECESS, 5, 0);
        due.is("it needs no second", Acts.second(house, 2), 6);
        due.is("the lower one has none yet", house.pending(0, 4), 0);
        due.is("the higher one needs none", house.pending(1, 4), 1);
        Acts.move(house, 1, Acts.ADJOURN, 5, 0);
        due.is("m moved it", Acts.second(house, 1), 6);
        due.is("m moved the lower one", Acts.second(house, 0), 0);
        due.is("it has one", Acts.second(house, 2), 6);
        due.is("of the highest alone", house.pending(0, 4), 0);
        due.is("of the highest alone", house.pending(2, 4), 1);
        Acts.vote(house, 0, 7);
        Acts.vote(house, 0, 7);
        due.is("vote without its second", Acts.vote(house, 7, 0), 6);
        due.is("second", Acts.second(house, 2), 0);
        due.is("it has one", Acts.second(house, 1), 6);
        due.is("vote", Acts.vote(house, 7, 0), 0);
        due.is("none is", Acts.second(house, 1), 6);
        Acts.move(house, 0, Acts.LIMIT, 5, 0);
        due.is("a new one has none", house.pending(0, 4), 0);
    }

    private static void debates() {
        due.by("can't be voted on until a call was let while it was pending and highest");
        DebateHouse house = Due.house("time 1;motion limit rank 1 debate pass half;motion recess rank 2 debate pass half;", 3);
        Acts.ask(house, 0);
        Acts.call(house);
        due.is("move", Acts.move(house, 0, Acts.LIMIT, 5, 0), 0);
        due.is("the call was ahead of it", house.pending(0, 5), 0);
        due.is("vote", Acts.vote(house, 7, 0), 6);
        due.is("a call that is refused", Acts.call(house), 6);
        due.is("vote", Acts.vote(house, 7, 0), 6);
        Acts.ask(house, 1);
        due.is("an ask is no call", Acts.vote(house, 7, 0), 6);
        Acts.move(house, 0, Acts.RECESS, 5, 0);
        Acts.pass(house, 1);
        due.is("a call while another one is the highest", Acts.call(house), 0);
        due.is("pending(0, 5)", house.pending(0, 5), 0);
        due.is("pending(1, 5)", house.pending(1, 5), 1);
        due.is("vote on the highest", Acts.vote(house, 0, 7), 0);
        due.is("vote on the lower one", Acts.vote(house, 7, 0), 6);
        Acts.ask(house, 2);
        Acts.pass(house, 1);
        due.is("call", Acts.call(house), 0);
        due.is("pending(0, 5)", house.pending(0, 5), 1);
        Acts.pass(house, 1);
        due.is("vote", Acts.vote(house, 7, 0), 0);
        Acts.move(house, 0, Acts.LIMIT, 5, 0);
        due.is("a new one was not debated", house.pending(0, 5), 0);
    }

    private static void closing() {
        due.by("or close has passed (for all then pending)");
        for (int passes = 0; passes < 2; passes++) {
            DebateHouse house = Due.house("motion main rank 1 pass half;motion amend rank 2 debate pass half;"
                + "motion limit rank 3 second debate pass half;motion close rank 4 pass half;", 3);
            carry(house, Acts.MAIN, 3, 0);
            Acts.move(house, 0, Acts.AMEND, 1, 0);
            Acts.move(house, 0, Acts.LIMIT, 5, 0);
            due.is("close", Acts.move(house, 0, Acts.CLOSE, 0, 0), 0);
            due.is("vote", Acts.vote(house, 7 * passes, 7 - 7 * passes), 0);
            due.is("pending(0, 5)", house.pending(0, 5), passes);
            due.is("pending(1, 5)", house.pending(1, 5), passes);
            due.is("no second by it", house.pending(1, 4), 0);
            Acts.second(house, 1);
            due.is("vote on limit", Acts.vote(house, 0, 7), passes == 1 ? 0 : 6);
            due.is("vote on amend", Acts.vote(house, 7, 0), passes == 1 ? 0 : 6);
            if (passes == 1) {
                due.is("amend", Acts.move(house, 0, Acts.AMEND, 5, 0), 0);
                due.is("what is moved later needs debate", house.pending(0, 5), 0);
            }
        }
    }

    private static void votesNotAsTold() {
        due.by("1: a MEMBER that is not there, or in both");
        DebateHouse house = Due.house(rulesWithout(-1), 23);
        Acts.move(house, 0, Acts.LIMIT, 5, 0);
        for (int set : new int[] {1 << 23, 1 << 24, 1 << 30, MIN, MAX, -1}) {
            due.is("yes " + set, Acts.vote(house, set, 0), 1);
            due.is("no " + set, Acts.vote(house, 0, set), 1);
        }
        due.is("0 in both", Acts.vote(house, 1, 1), 1);
        due.is("22 in both", Acts.vote(house, 1 << 22, (1 << 23) - 1), 1);
        Acts.leave(house, 5);
        due.is("5, who left", Acts.vote(house, 1 << 5, 0), 1);
        due.is("it is pending still", house.state(5), 1);
        Acts.come(house, 23);
        Acts.come(house, 5);
        due.is("23, who is there", Acts.vote(house, 1 << 23, (1 << 23) - 1), 0);
        due.is("passed", house.passed(Acts.latest(house)), 0);
        Acts.move(house, 0, Acts.LIMIT, 5, 0);
        due.is("all of them", Acts.vote(house, (1 << 24) - 1, 0), 0);
        due.is("passed", house.passed(Acts.latest(house)), 1);
        due.is("1 as no motion is pending", Acts.vote(house, 1, 1), 1);
    }

    private static void votesNotInOrder() {
        due.by("vote: 6 no motion is pending; it needs a second and has none; it has debate and none was yet; "
            + "it is of WAY chair");
        String[] told = {"second pass half", "debate pass half", "pass chair"};
        for (String way : told) {
            DebateHouse house = Due.house("motion limit rank 1 " + way + ";", 2);
            due.is("no motion is pending", Acts.vote(house, 3, 0), 6);
            Acts.move(house, 0, Acts.LIMIT, 5, 0);
            due.is("limit " + way, Acts.vote(house, 3, 0), 6);
            due.is("it is pending still", house.state(5), 1);
            due.is("TIME", house.state(4), 60);
        }
    }

    private static void ways() {
        due.by("half: 2 yes above yes and no; thirds: 3 yes not below 2 (yes and no), yes above 0; "
            + "quarter: 4 yes above yes and no");
        int[][] rows = {{0, 0}, {1, 0}, {0, 1}, {1, 1}, {1, 2}, {2, 1}, {1, 3}, {3, 1}, {2, 2}, {3, 2}, {4, 2}, {5, 3}, {6, 3},
            {2, 5}, {2, 6}, {2, 7}, {3, 8}, {3, 9}, {12, 12}, {13, 11}, {11, 13}, {15, 8}, {16, 8}, {15, 9}, {6, 18}, {7, 17},
            {5, 18}, {6, 17}, {24, 0}, {0, 24}};
        String[] words = {"half", "thirds", "quarter"};
        for (int way = 0; way < 3; way++) {
            DebateHouse house = Due.house("motion limit rank 1 pass " + words[way] + ";", 24);
            for (int[] row : rows) {
                int yes = row[0];
                int all = yes + row[1];
                boolean[] want = {2 * yes > all, 3 * yes >= 2 * all && yes > 0, 4 * yes > all};
                Acts.move(house, 0, Acts.LIMIT, 5, 0);
                due.is("vote", Acts.vote(house, (1 << yes) - 1, (1 << all) - (1 << yes)), 0);
                due.is(words[way] + ", " + yes + " to " + row[1], house.passed(Acts.latest(house)), want[way] ? 1 : 0);
            }
        }
    }

    private static void rulesOfTheChair() {
        due.by("rule v (v 0 or 1): as vote, but of WAY chair alone (6: it is not): it passes with 1");
        DebateHouse house = Due.house("motion limit rank 1 pass chair;motion recess rank 2 pass half;"
            + "motion adjourn rank 3 second debate pass chair;", 2);
        due.is("no motion is pending", Acts.rule(house, 1), 6);
        Acts.move(house, 0, Acts.LIMIT, 5, 0);
        for (int v : new int[] {-1, 2, 3, MIN, MAX}) {
            due.is("rule " + v, Acts.rule(house, v), 1);
        }
        Acts.move(house, 0, Acts.RECESS, 5, 0);
        due.is("the highest one is not of WAY chair", Acts.rule(house, 1), 6);
        due.is("vote on it", Acts.vote(house, 0, 3), 0);
        due.is("rule 0", Acts.rule(house, 0), 0);
        due.is("passed", house.passed(Acts.latest(house)), 0);
        due.is("TIME", house.state(4), 60);
        Acts.move(house, 0, Acts.LIMIT, 5, 0);
        due.is("rule 1", Acts.rule(house, 1), 0);
        due.is("passed", house.passed(Acts.latest(house)), 1);
        due.is("TIME", house.state(4), 5);
        Acts.move(house, 0, Acts.ADJOURN, 0, 0);
        Acts.ask(house, 0);
        Acts.call(house);
        due.is("debated, without its second", Acts.rule(house, 1), 6);
        Acts.second(house, 1);
        due.is("with both", Acts.rule(house, 0), 0);
        Acts.move(house, 0, Acts.ADJOURN, 0, 0);
        Acts.second(house, 1);
        due.is("with its second, not debated", Acts.rule(house, 1), 6);
    }

    private static void pendingNoMore() {
        due.by("What was voted on is pending no more");
        DebateHouse house = house();
        Acts.move(house, 0, Acts.LIMIT, 5, 1);
        Acts.move(house, 1, Acts.RECESS, 6, 2);
        due.is("vote against the highest", Acts.vote(house, 0, 7), 0);
        due.is("motions pending", house.state(5), 1);
        due.is("pending(0, 0)", house.pending(0, 0), Acts.LIMIT);
        due.is("pending(1, 0)", house.pending(1, 0), -1);
        due.is("RECESS", house.state(6), 0);
        due.is("vote for the other", Acts.vote(house, 7, 0), 0);
        due.is("motions pending", house.state(5), 0);
        due.is("vote again", Acts.vote(house, 7, 0), 6);
    }

    private static void whatPassed() {
        due.by("If it PASSED");
        int[][] moves = {{Acts.MAIN, 3}, {Acts.LIMIT, 5}, {Acts.RECESS, 5}, {Acts.ADJOURN, 0}};
        int[] none = {3, 0, -1, 0, 60, 0, 0, 0, -1, 0, 5};
        int[][] changes = {{8, 3}, {4, 5}, {6, 5}, {7, 1}};
        for (int n = 0; n < moves.length; n++) {
            for (int passes = 0; passes < 2; passes++) {
                DebateHouse house = house();
                due.is("move", Acts.move(house, 0, moves[n][0], moves[n][1], 0), 0);
                due.is("vote", Acts.vote(house, 7 * passes, 7 - 7 * passes), 0);
                for (int what = 0; what < none.length; what++) {
                    int want = passes == 1 && what == changes[n][0] ? changes[n][1] : none[what];
                    due.is(KINDS[moves[n][0]] + ": state(" + what + ")", house.state(what), want);
                }
            }
        }
        due.by("limit: TIME is a");
        DebateHouse house = Due.house(rulesWithout(-1), 1);
        Acts.ask(house, 0);
        Acts.call(house);
        Acts.move(house, 0, Acts.LIMIT, 5, 0);
        Acts.vote(house, 1, 0);
        due.is("the FLOOR's time left is as it was", house.state(3), 60);
        due.is("told(10) is as it was", house.told(10), 60);
    }

    /** A limit that needs debate waits below: each KIND that passes changes what is its own, and nothing else. */
    private static void onlyItsOwn() {
        due.by("If it PASSED: of each KIND what stands there alone");
        String rules = rulesWithout(Acts.LIMIT) + "motion limit rank 2 debate pass half;";
        int[] whats = {4, 5, 6, 7, 8};
        int[][] rows = {{60, 1, 0, 0, 5, 0}, {60, 1, 0, 0, 3, 0}, {60, 1, 0, 0, 4, 1}, {}, {60, 0, 0, 0, -1, -1},
            {60, 1, 5, 0, 4, 0}, {60, 0, 0, 1, 4, -1}, {60, 1, 0, 0, 4, 0}};
        for (int kind = 0; kind < 8; kind++) {
            if (kind == Acts.LIMIT) {
                continue;
            }
            DebateHouse house = Due.house(rules, 3);
            Acts.yieldTo(house, 0);
            if (kind != Acts.MAIN) {
                carry(house, Acts.MAIN, 4, 100);
            }
            due.is("limit", Acts.move(house, 0, Acts.LIMIT, 9, 0), 0);
            carry(house, kind, 5, 6);
            for (int n = 0; n < whats.length; n++) {
                due.is(KINDS[kind] + ": state(" + whats[n] + ")", house.state(whats[n]), rows[kind][n]);
            }
            due.is(KINDS[kind] + ": pending(0, 5)", house.pending(0, 5), rows[kind][5]);
        }
        DebateHouse house = Due.house(rulesWithout(Acts.AMEND) + "motion amend rank 20 debate pass half;", 3);
        carry(house, Acts.MAIN, 4, 100);
        Acts.move(house, 0, Acts.AMEND, 1, 0);
        carry(house, Acts.LIMIT, 5, 6);
        int[] want = {5, 1, 0, 0, 4};
        for (int n = 0; n < whats.length; n++) {
            due.is("limit: state(" + whats[n] + ")", house.state(whats[n]), want[n]);
        }
        due.is("limit: pending(0, 5)", house.pending(0, 5), 0);
    }

    private static void tables() {
        due.by("table: the paper is gone, all pending motions too");
        for (int passes = 0; passes < 2; passes++) {
            DebateHouse house = houseWithPaper();
            Acts.move(house, 0, Acts.AMEND, 1, 0);
            Acts.move(house, 0, Acts.LIMIT, 5, 0);
            Acts.move(house, 0, Acts.TABLE, 0, 0);
            due.is("vote", Acts.vote(house, 7 * passes, 7 - 7 * passes), 0);
            due.is("CLAUSES", house.state(8), passes == 1 ? -1 : 4);
            due.is("motions pending", house.state(5), passes == 1 ? 0 : 2);
            due.is("clause(0, 0)", house.clause(0, 0), passes == 1 ? -1 : 0);
            due.is("clause(0, 1)", house.clause(0, 1), passes == 1 ? -1 : 100);
            due.is("place(3)", house.place(3), passes == 1 ? -1 : 3);
            due.is("pending(0, 0)", house.pending(0, 0), passes == 1 ? -1 : Acts.AMEND);
            due.is("TIME", house.state(4), 60);
        }
    }

    private static void adjourns() {
        due.by("adjourn: the session is over, no motion is pending");
        DebateHouse house = houseWithPaper();
        Acts.ask(house, 1);
        Acts.ask(house, 0);
        Acts.call(house);
        Acts.move(house, 1, Acts.AMEND, 1, 0);
        Acts.move(house, 1, Acts.ADJOURN, 0, 0);
        due.is("vote", Acts.vote(house, 7, 0), 0);
        int[] states = {3, 1, 1, 60, 60, 0, 0, 1, 4, 0, 11};
        for (int what = 0; what < states.length; what++) {
            due.is("state(" + what + ")", house.state(what), states[what]);
        }
        due.is("pending(0, 0)", house.pending(0, 0), -1);
    }

    private static void mainInPlaceOfAPaper() {
        due.by("A main that passes takes the place of a paper that is there");
        DebateHouse house = house();
        Acts.yieldTo(house, 0);
        due.is("main", Acts.move(house, 0, Acts.MAIN, 2, 500), 0);
        due.is("appeal", Acts.move(house, 0, Acts.APPEAL, 0, 0), 0);
        carry(house, Acts.MAIN, 4, 100);
        due.is("CLAUSES", house.state(8), 4);
        carry(house, Acts.AMEND, 4 * 1 + 1, 0);
        due.is("vote on the appeal", Acts.vote(house, 7, 0), 0);
        due.is("vote on the first main", Acts.vote(house, 7, 0), 0);
        due.is("CLAUSES", house.state(8), 2);
        int[][] clauses = {{0, 500}, {1, 501}, {-1, -1}};
        for (int k = 0; k < clauses.length; k++) {
            due.is("clause(" + k + ", 0)", house.clause(k, 0), clauses[k][0]);
            due.is("clause(" + k + ", 1)", house.clause(k, 1), clauses[k][1]);
        }
        due.is("place(1): it is there", house.place(1), 1);
        due.is("place(2)", house.place(2), -1);
        carry(house, Acts.AMEND, 0, 7);
        due.is("numbers go on from its own", house.clause(1, 0), 2);
    }

    private static void passed() {
        due.by("Of an act that was a vote or rule with RULING 0: 1 it PASSED, 0 not; NONE else");
        DebateHouse house = Due.house("motion limit rank 1 pass half;motion recess rank 2 pass chair;", 2);
        int[] want = {-1, -1, -1, 0, -1, 1, -1, -1, -1, 0, -1, -1, -1, -1};
        Acts.move(house, 0, Acts.LIMIT, 5, 0);
        Acts.vote(house, 1, 2);
        Acts.move(house, 0, Acts.LIMIT, 5, 0);
        Acts.vote(house, 3, 0);
        Acts.vote(house, 3, 0);
        Acts.vote(house, 3, 1);
        Acts.move(house, 0, Acts.RECESS, 5, 0);
        Acts.rule(house, 0);
        Acts.rule(house, 1);
        Acts.rule(house, 2);
        Acts.call(house);
        for (int i = 0; i < want.length; i++) {
            due.is("passed(" + i + ")", house.passed(i), want[i]);
        }
        for (int act : new int[] {-1, 300, 301, MIN, MAX}) {
            due.is("passed(" + act + ")", house.passed(act), -1);
        }
        Acts.move(house, 0, Acts.RECESS, 5, 0);
        Acts.rule(house, 1);
        due.is("passed of a rule", house.passed(Acts.latest(house)), 1);
    }

    private static void pending() {
        due.by("Of pending motion k (0 the first moved); NONE without it, or for another what");
        DebateHouse house = Due.house("motion limit rank 1 second pass half;motion recess rank 2 debate pass half;", 24);
        due.is("pending(0, 0), none is", house.pending(0, 0), -1);
        Acts.move(house, 23, Acts.LIMIT, 999, 1);
        Acts.move(house, 4, Acts.RECESS, 2, 998);
        int[][] rows = {{Acts.LIMIT, 23, 999, 1, 0, 1}, {Acts.RECESS, 4, 2, 998, 1, 0}};
        for (int k = 0; k < 2; k++) {
            for (int what = 0; what < 6; what++) {
                due.is("pending(" + k + ", " + what + ")", house.pending(k, what), rows[k][what]);
            }
            for (int what : new int[] {-1, 6, 7, MIN, MAX}) {
                due.is("pending(" + k + ", " + what + ")", house.pending(k, what), -1);
            }
        }
        for (int k : new int[] {-1, 2, 7, 8, MIN, MAX}) {
            for (int what = -1; what <= 6; what++) {
                due.is("pending(" + k + ", " + what + ")", house.pending(k, what), -1);
            }
        }
    }

    private static void overturned() {
        due.by("1 if a RULING was OVERTURNED, else 0; NONE without the act");
        DebateHouse house = Due.house("motion appeal rank 1 pass half;", 1);
        due.is("overturned(1) without it", house.overturned(1), -1);
        Acts.yieldTo(house, 0);
        due.is("overturned(1)", house.overturned(1), 0);
        Acts.move(house, 0, Acts.APPEAL, 0, 0);
        due.is("overturned(1), the appeal is pending", house.overturned(1), 0);
        Acts.vote(house, 1, 0);
        due.is("overturned(1)", house.overturned(1), 1);
        due.is("overturned(0)", house.overturned(0), 0);
        due.is("overturned(2)", house.overturned(2), 0);
        due.is("overturned(3)", house.overturned(3), 0);
        for (int act : new int[] {4, 299, 300, -1, MIN, MAX}) {
            due.is("overturned(" + act + ")", house.overturned(act), -1);
        }
        Acts.yieldTo(house, 0);
        Acts.move(house, 0, Acts.APPEAL, 0, 0);
        Acts.vote(house, 0, 1);
        due.is("overturned(4), it did not pass", house.overturned(4), 0);
    }
}

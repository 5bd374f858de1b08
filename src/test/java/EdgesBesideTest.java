/** The boundary cases of Terms IV and of promise 16 (beside), a sentence at a time. */
public final class EdgesBesideTest {
    private static final Due due = new Due();
    private static final int MIN = Integer.MIN_VALUE;
    private static final int MAX = Integer.MAX_VALUE;
    private static final int RULING = 11;
    private static final int TEXT = 400;
    private static final String RULES = "time 9;motion main rank 10 pass half;motion amend rank 20 pass half;"
        + "motion limit rank 30 second pass half;motion recess rank 40 pass chair;motion table rank 50 pass half;"
        + "motion close rank 60 pass half;motion adjourn rank 70 pass half;motion appeal rank 1 pass half;";

    public static void main(String[] args) {
        eachActNotDone();
        eachMoveThatIsLet();
        appealsThatAreLet();
        yieldsThatAreLet();
        asYielded();
        nothingBeside();
        kindNotLet();
        eightPending();
        ruledAnew();
        appealsRuledAnew();
        whatCantBeSo();
        amendmentsThatCantBeSo();
        addToWhatIsGone();
        addToWhatWasGone();
        twoAtTheFront();
        workedTwice();
        mainInPlaceOfAPaper();
        tableWithoutAPaper();
        whats();
        withoutTheAct();
        threeHundredActs();
        sessionStays();
        due.finish();
    }

    private static int move(DebateHouse house, int kind, int a, int b) {
        return Acts.move(house, 0, kind, a, b);
    }

    private static void pass(DebateHouse house) {
        due.is("vote", Acts.vote(house, 7, 0), 0);
    }

    private static DebateHouse house() {
        return Due.house(RULES, 3);
    }

    /** Acts 3 and 4: a paper of four clauses. */
    private static DebateHouse houseWithPaper() {
        DebateHouse house = house();
        due.is("main", move(house, Acts.MAIN, 4, 100), 0);
        pass(house);
        return house;
    }

    /** The latest act has that RULING; beside it the other one, and the state has what is due. */
    private static void latest(String act, DebateHouse house, int ruling, int what, int stays, int beside) {
        int i = Acts.latest(house);
        due.is(act, house.ruling(i), ruling);
        due.is(act + ": its RULING beside", house.beside(i, RULING + i), 6 - ruling);
        due.is(act + ": beside(" + what + ")", house.beside(i, what), beside);
        due.is(act + ": state(" + what + ")", house.state(what), stays);
    }

    private static void eachActNotDone() {
        due.by("6 instead of 0 (it is not done)");
        DebateHouse house = house();
        latest("come", house, 0, 0, 3, 2);
        Acts.ask(house, 1);
        latest("ask", house, 0, 1, 1, 0);
        Acts.call(house);
        latest("call", house, 0, 2, 1, -1);
        Acts.pass(house, 4);
        latest("pass", house, 0, 3, 5, 9);
        due.is("ticks gone by", house.beside(Acts.latest(house), 9), 0);
        Acts.yieldTo(house, 0);
        latest("yield", house, 0, 2, 0, 1);
        move(house, Acts.LIMIT, 5, 0);
        latest("move", house, 0, 5, 1, 0);
        Acts.second(house, 2);
        Acts.vote(house, 7, 0);
        latest("vote", house, 0, 4, 5, 9);
        due.is("the motion is pending beside it", house.beside(Acts.latest(house), 5), 1);
        due.is("second: the vote is refused beside it", house.beside(8, RULING + 9), 6);
        due.is("second: its RULING beside", house.beside(8, RULING + 8), 6);
        move(house, Acts.RECESS, 3, 0);
        Acts.rule(house, 1);
        latest("rule", house, 0, 6, 3, 0);
        Acts.leave(house, 0);
        latest("leave", house, 0, 0, 2, 3);
        due.is("leave: the FLOOR beside", house.beside(Acts.latest(house), 2), 0);
    }

    private static void eachMoveThatIsLet() {
        due.by("or, if it was 6, 0: a move of a KIND that the rules let, with fewer than eight pending: it is pending");
        DebateHouse house = house();
        int[][] moves = {{Acts.MAIN, 0}, {Acts.MAIN, 21}, {Acts.AMEND, 0}, {Acts.CLOSE, 0}, {Acts.LIMIT, 0}, {Acts.TABLE, 0},
            {Acts.RECESS, 0}, {Acts.APPEAL, 0}};
        for (int[] one : moves) {
            DebateHouse without = house();
            move(without, one[0], one[1], 0);
            latest("KIND " + one[0] + " without a paper", without, 6, 5, 0, 1);
        }
        move(house, Acts.MAIN, 4, 100);
        move(house, Acts.MAIN, 4, 100);
        latest("a rank that is not above", house, 6, 5, 1, 2);
        pass(house);
        move(house, Acts.MAIN, 4, 100);
        latest("main as a paper is there", house, 6, 5, 0, 1);
        move(house, Acts.CLOSE, 0, 0);
        latest("close as none is pending", house, 6, 5, 0, 1);
        move(house, Acts.AMEND, 16, 0);
        latest("a clause that was never there", house, 6, 5, 0, 1);
        move(house, Acts.AMEND, 15, 0);
        latest("JOIN of the last", house, 6, 5, 0, 1);
        move(house, Acts.AMEND, 1, 0);
        pass(house);
        move(house, Acts.AMEND, 0, 0);
        latest("a clause that is GONE", house, 6, 5, 0, 1);
        Acts.ask(house, 1);
        Acts.call(house);
        move(house, Acts.ADJOURN, 0, 0);
        latest("someone else has the FLOOR", house, 6, 5, 0, 1);
        DebateHouse full = Due.house(RULES, 3);
        move(full, Acts.MAIN, 20, 0);
        pass(full);
        for (int n = 0; n < 20; n++) {
            move(full, Acts.AMEND, 0, 0);
            pass(full);
        }
        move(full, Acts.AMEND, 0, 7);
        latest("ADD with 40", full, 6, 5, 0, 1);
        Acts.vote(full, 7, 0);
        due.is("ADD with 40: it is voted on beside", full.beside(45, RULING + 46), 0);
        due.is("ADD with 40: nothing", full.beside(45, 8), 40);
    }

    private static void appealsThatAreLet() {
        due.by("or, if it was 6, 0: of an appeal");
        DebateHouse house = house();
        Acts.yieldTo(house, 0);
        move(house, Acts.APPEAL, 0, 0);
        move(house, Acts.APPEAL, 0, 0);
        latest("another appeal is pending", house, 6, 5, 1, 2);
        pass(house);
        move(house, Acts.APPEAL, 0, 0);
        pass(house);
        move(house, Acts.APPEAL, 0, 0);
        latest("it was voted on", house, 6, 5, 0, 1);
    }

    private static void yieldsThatAreLet() {
        due.by("a yield as someone has the FLOOR: m has it, as yielded");
        DebateHouse house = Due.house("yields no;time 9;", 3);
        Acts.yieldTo(house, 1);
        due.is("nobody has it", house.beside(Acts.latest(house), 0), -1);
        Acts.ask(house, 0);
        Acts.yieldTo(house, 0);
        due.is("nobody has it, he waits", house.beside(Acts.latest(house), 0), -1);
        Acts.call(house);
        Acts.pass(house, 8);
        Acts.yieldTo(house, 1);
        latest("the rules let none", house, 6, 2, 0, 1);
        due.is("for what is left", house.beside(Acts.latest(house), 3), 1);
        Acts.yieldTo(house, 0);
        latest("m has it", house, 6, 2, 0, 0);
        Acts.pass(house, 1);
        due.is("it is free at 0 beside it too", house.beside(8, 2), -1);
        Acts.yieldTo(house, 1);
        due.is("it is free", house.beside(Acts.latest(house), 0), -1);
        DebateHouse gone = Due.house("time 9;", 2);
        Acts.ask(gone, 0);
        Acts.call(gone);
        Acts.yieldTo(gone, 5);
        due.is("m is not there", gone.ruling(4), 2);
        due.is("nothing beside it", gone.beside(4, 2), -1);
        due.is("nothing beside it", gone.beside(4, 0), -1);
    }

    private static void asYielded() {
        due.by("m has it, as yielded");
        DebateHouse house = Due.house("time 9;", 3);
        Acts.ask(house, 0);
        Acts.call(house);
        due.is("act 5: to who has it", Acts.yieldTo(house, 0), 6);
        due.is("act 6", Acts.yieldTo(house, 1), 0);
        due.is("act 7: it was yielded", Acts.yieldTo(house, 2), 6);
        due.is("act 8: it was yielded", Acts.yieldTo(house, 0), 6);
        due.is("beside 5: act 6", house.beside(5, RULING + 6), 6);
        due.is("beside 5: the FLOOR", house.beside(5, 2), 0);
        due.is("beside 6: act 7", house.beside(6, RULING + 7), 0);
        due.is("beside 6: act 8", house.beside(6, RULING + 8), 6);
        due.is("beside 6: the FLOOR", house.beside(6, 2), 2);
        due.is("beside 7: act 8", house.beside(7, RULING + 8), 6);
        due.is("beside 7: the FLOOR", house.beside(7, 2), 2);
        due.is("beside 8: the FLOOR", house.beside(8, 2), 0);
    }

    private static void nothingOf(String act, DebateHouse house, int ruling) {
        int i = Acts.latest(house);
        due.is(act, house.ruling(i), ruling);
        for (int what : new int[] {0, 4, 10, RULING, RULING + i, TEXT}) {
            due.is(act + ": beside(" + i + ", " + what + ")", house.beside(i, what), -1);
        }
    }

    private static void nothingBeside() {
        due.by("Of all others there is nothing beside them");
        DebateHouse house = Due.house("quorum 3;" + RULES, 2);
        Acts.come(house, 24);
        nothingOf("1: come", house, 1);
        move(house, Acts.LIMIT, 1000, 0);
        nothingOf("1: move", house, 1);
        Acts.move(house, 5, Acts.LIMIT, 5, 0);
        nothingOf("2: move", house, 2);
        Acts.come(house, 0);
        nothingOf("2: come", house, 2);
        move(house, Acts.LIMIT, 5, 0);
        nothingOf("4: move", house, 4);
        Acts.yieldTo(house, 0);
        nothingOf("4: yield", house, 4);
        Acts.come(house, 2);
        Acts.call(house);
        nothingOf("6: call", house, 6);
        Acts.ask(house, 0);
        Acts.ask(house, 0);
        nothingOf("6: ask", house, 6);
        Acts.second(house, 0);
        nothingOf("6: second", house, 6);
        Acts.vote(house, 7, 0);
        nothingOf("6: vote", house, 6);
        Acts.rule(house, 1);
        nothingOf("6: rule", house, 6);
        Acts.yieldTo(house, 1);
        nothingOf("6: yield as nobody has the FLOOR", house, 6);
        move(house, Acts.RECESS, 5, 0);
        Acts.rule(house, 1);
        move(house, Acts.LIMIT, 5, 0);
        nothingOf("5: move", house, 5);
        Acts.pass(house, 5);
        move(house, Acts.ADJOURN, 0, 0);
        pass(house);
        move(house, Acts.LIMIT, 5, 0);
        nothingOf("3: move", house, 3);
        Acts.pass(house, 5);
        nothingOf("3: pass", house, 3);
    }

    private static void kindNotLet() {
        due.by("a move of a KIND that the rules let");
        DebateHouse house = Due.house("motion limit rank 1 pass half;", 1);
        for (int kind = 0; kind < 8; kind++) {
            if (kind != Acts.LIMIT) {
                move(house, kind, 5, 0);
                nothingOf("a KIND that is not let", house, 6);
            }
        }
        move(house, Acts.LIMIT, 0, 0);
        latest("a KIND that is let", house, 6, 5, 0, 1);
    }

    private static void eightPending() {
        due.by("with fewer than eight pending");
        DebateHouse house = houseWithPaper();
        Acts.yieldTo(house, 0);
        int[] kinds = {Acts.AMEND, Acts.LIMIT, Acts.RECESS, Acts.APPEAL, Acts.AMEND, Acts.LIMIT, Acts.RECESS};
        for (int kind : kinds) {
            due.is("move", move(house, kind, 1, 0), 0);
        }
        move(house, Acts.AMEND, 1, 0);
        latest("with seven pending", house, 6, 5, 7, 8);
        due.is("table", move(house, Acts.TABLE, 0, 0), 0);
        move(house, Acts.CLOSE, 1, 0);
        nothingOf("with eight pending", house, 6);
        due.is("beside the eighth one the ninth is let", house.beside(14, RULING + 15), 0);
        due.is("it is the eighth there", house.beside(14, 5), 8);
        due.is("beside a move more, table is the ninth", house.beside(13, RULING + 14), 6);
    }

    private static void ruledAnew() {
        due.by("Acts behind it are ruled anew");
        DebateHouse house = Due.house("quorum 2;" + RULES, 3);
        due.is("act 3", Acts.leave(house, 2), 0);
        due.is("act 4", Acts.ask(house, 2), 2);
        due.is("act 5", Acts.ask(house, 1), 0);
        due.is("act 6", move(house, Acts.RECESS, 3, 0), 0);
        due.is("act 7", Acts.rule(house, 1), 0);
        due.is("act 8", Acts.call(house), 5);
        due.is("act 9", Acts.pass(house, 3), 0);
        due.is("act 10", move(house, Acts.ADJOURN, 0, 0), 0);
        due.is("act 11", Acts.vote(house, 3, 0), 0);
        due.is("act 12", Acts.call(house), 3);
        due.is("act 13", Acts.come(house, 2), 0);
        due.is("beside 3: 0 instead of 2", house.beside(3, RULING + 4), 0);
        due.is("beside 3: 2 instead of 0", house.beside(3, RULING + 13), 2);
        due.is("beside 0: 4 instead of 0", house.beside(0, RULING + 5), 4);
        due.is("beside 0: 2 instead of 0", house.beside(0, RULING + 6), 2);
        due.is("beside 0: 1 instead of 0, a vote of one not there", house.beside(0, RULING + 11), 1);
        due.is("beside 7: 0 instead of 5", house.beside(7, RULING + 8), 0);
        due.is("beside 7: 6 instead of 0, the mover has not the FLOOR", house.beside(7, RULING + 10), 6);
        due.is("beside 6: 6 instead of 0, none is pending", house.beside(6, RULING + 7), 6);
        due.is("beside 11: 0 instead of 3", house.beside(11, RULING + 12), 0);
        due.is("beside 9: 5 instead of 0", house.beside(9, RULING + 10), 5);
        due.is("beside 9: it is not over", house.beside(9, 7), 0);
        due.is("beside 13: what is ahead of it is as it was", house.beside(13, RULING + 12), 3);
        due.is("beside 13: its own", house.beside(13, RULING + 13), 6);
        due.is("acts", house.beside(0, 10), 14);
    }

    private static void appealsRuledAnew() {
        due.by("An appeal means the act that it meant there");
        DebateHouse house = house();
        due.is("act 3: yield", Acts.yieldTo(house, 0), 6);
        due.is("act 4: recess 0", move(house, Acts.RECESS, 0, 0), 6);
        due.is("act 5: appeal", move(house, Acts.APPEAL, 0, 0), 0);
        due.is("act 6", Acts.vote(house, 7, 0), 0);
        due.is("act 7: appeal again", move(house, Acts.APPEAL, 0, 0), 6);
        due.is("beside 4: act 3 is meant", house.beside(4, RULING + 5), 0);
        due.is("beside 4: an appeal of it was voted on", house.beside(4, RULING + 7), 6);
        due.is("beside 5: act 5 is the latest refused one", house.beside(5, RULING + 7), 0);
        due.is("beside 6: an appeal is pending", house.beside(6, RULING + 7), 6);
        DebateHouse none = house();
        due.is("act 3: recess 0", move(none, Acts.RECESS, 0, 0), 6);
        due.is("act 4: appeal", move(none, Acts.APPEAL, 0, 0), 0);
        due.is("beside 3: no act ahead was refused", none.beside(3, RULING + 4), 6);
        due.is("beside 3: one is pending", none.beside(3, 5), 1);
        DebateHouse first = house();
        due.is("act 3: recess", move(first, Acts.RECESS, 5, 0), 0);
        due.is("act 4: appeal of nothing", move(first, Acts.APPEAL, 0, 0), 6);
        due.is("beside 3: it is refused, so the appeal is let", first.beside(3, RULING + 4), 0);
        due.is("beside 2: a come can't be appealed", first.beside(2, RULING + 4), 6);
    }

    private static void whatCantBeSo() {
        due.by("What can't be so, as after a RULING that was the other one, does nothing");
        int[][] moves = {{Acts.MAIN, 0}, {Acts.MAIN, 21}, {Acts.MAIN, 999}, {Acts.LIMIT, 0}, {Acts.RECESS, 0}, {Acts.AMEND, 0},
            {Acts.AMEND, 1}, {Acts.AMEND, 2}, {Acts.AMEND, 3}, {Acts.APPEAL, 0}, {Acts.CLOSE, 0}};
        int[] states = {3, 0, -1, 0, 9, 0, 0, 0, -1, 0, 7};
        for (int[] one : moves) {
            DebateHouse house = house();
            due.is("move", move(house, one[0], one[1], 7), 6);
            Acts.second(house, 1);
            Acts.vote(house, 7, 0);
            Acts.rule(house, 1);
            boolean chair = one[0] == Acts.RECESS;
            due.is("it is voted on", house.beside(3, RULING + 5), chair ? 6 : 0);
            due.is("it is ruled on", house.beside(3, RULING + 6), chair ? 0 : 6);
            for (int what = 0; what < states.length; what++) {
                due.is("KIND " + one[0] + ", a " + one[1] + ": beside(3, " + what + ")", house.beside(3, what), states[what]);
            }
            due.is("no text", house.beside(3, TEXT), -1);
        }
        DebateHouse papered = houseWithPaper();
        due.is("main of 0 with a paper", move(papered, Acts.MAIN, 0, 7), 6);
        Acts.vote(papered, 7, 0);
        due.is("it is voted on", papered.beside(5, RULING + 6), 0);
        due.is("the paper is as it was", papered.beside(5, 8), 4);
        due.is("the paper is as it was", papered.beside(5, TEXT), 100);
    }

    private static void amendmentsThatCantBeSo() {
        due.by("JOIN without one behind: nothing; no such clause was ever there");
        int[] amendments = {15, 16, 17, 18, 19, 996, 999};
        for (int a : amendments) {
            DebateHouse house = houseWithPaper();
            due.is("amend " + a, move(house, Acts.AMEND, a, 7), 6);
            Acts.vote(house, 7, 0);
            due.is("it is voted on", house.beside(5, RULING + 6), 0);
            due.is("CLAUSES", house.beside(5, 8), 4);
            for (int k = 0; k < 4; k++) {
                due.is("text " + k, house.beside(5, TEXT + k), 100 + k);
            }
        }
    }

    private static void addToWhatIsGone() {
        due.by("then ADD comes behind the last clause ahead of it that is still there, others do nothing");
        for (int kind = 0; kind < 4; kind++) {
            DebateHouse house = houseWithPaper();
            due.is("act 5: amendment " + kind + " of 2", move(house, Acts.AMEND, 8 + kind, 7), 0);
            due.is("act 6: STRIKE of 2, of the same rank", move(house, Acts.AMEND, 9, 0), 6);
            Acts.vote(house, 7, 0);
            Acts.vote(house, 7, 0);
            int[] added = {100, 101, 7, 103, -1};
            int[] struck = {100, 101, 103, -1, -1};
            for (int k = 0; k < added.length; k++) {
                due.is("amendment " + kind + ": text " + k, house.beside(6, TEXT + k), kind == 0 ? added[k] : struck[k]);
            }
        }
    }

    /** Clause 2 is GONE as the amendment is moved, which is let beside the session alone. */
    private static void addToWhatWasGone() {
        due.by("As it is moved: 6 it is GONE; as it passes, then ADD comes behind the last clause ahead of it");
        for (int kind = 0; kind < 4; kind++) {
            DebateHouse house = houseWithPaper();
            due.is("act 5: STRIKE of 2", move(house, Acts.AMEND, 9, 0), 0);
            pass(house);
            due.is("act 7: amendment " + kind + " of 2", move(house, Acts.AMEND, 8 + kind, 7), 6);
            Acts.vote(house, 7, 0);
            due.is("it is voted on", house.beside(7, RULING + 8), 0);
            int[] added = {100, 101, 7, 103, -1};
            int[] struck = {100, 101, 103, -1, -1};
            for (int k = 0; k < added.length; k++) {
                due.is("amendment " + kind + ": text " + k, house.beside(7, TEXT + k), kind == 0 ? added[k] : struck[k]);
            }
        }
    }

    /** Clause 0 goes while two additions to it wait: what the first brings was not ahead of clause 0 when it went. */
    private static void twoAtTheFront() {
        due.by("of those that were ahead of it when it went; none: at the front");
        DebateHouse house = houseWithPaper();
        due.is("act 5: yield", Acts.yieldTo(house, 0), 6);
        due.is("act 6: ADD", move(house, Acts.AMEND, 0, 7), 0);
        due.is("act 7: appeal", move(house, Acts.APPEAL, 0, 0), 0);
        due.is("act 8: ADD", move(house, Acts.AMEND, 0, 8), 0);
        due.is("act 9: STRIKE, of the same rank", move(house, Acts.AMEND, 1, 0), 6);
        for (int n = 0; n < 4; n++) {
            Acts.vote(house, 7, 0);
        }
        int[] texts = {7, 8, 101, 102, 103, -1};
        for (int k = 0; k < texts.length; k++) {
            due.is("text " + k, house.beside(9, TEXT + k), texts[k]);
        }
    }

    private static void workedTwice() {
        due.by("the session worked anew from its first act on");
        DebateHouse house = Due.house("time 1;", 2);
        Acts.ask(house, 0);
        Acts.call(house);
        Acts.pass(house, 1);
        Acts.ask(house, 1);
        Acts.call(house);
        Acts.pass(house, 1);
        Acts.ask(house, 0);
        Acts.ask(house, 1);
        Acts.call(house);
        Acts.come(house, 2);
        for (int n = 0; n < 3; n++) {
            due.is("the FLOOR beside, time " + n, house.beside(11, 2), 0);
            due.is("the FLOOR beside another, time " + n, house.beside(3, 2), 1);
        }
    }

    private static void mainInPlaceOfAPaper() {
        due.by("A main that passes takes the place of a paper that is there");
        DebateHouse house = houseWithPaper();
        due.is("act 5: main", move(house, Acts.MAIN, 2, 500), 6);
        Acts.vote(house, 7, 0);
        due.is("act 7: a clause of it", move(house, Acts.AMEND, 4, 7), 0);
        pass(house);
        int[] texts = {500, 501, 7, -1};
        for (int k = 0; k < texts.length; k++) {
            due.is("text " + k, house.beside(5, TEXT + k), texts[k]);
        }
        due.is("CLAUSES", house.beside(5, 8), 3);
        due.is("CLAUSES of the session", house.state(8), 5);
    }

    private static void tableWithoutAPaper() {
        due.by("table: the paper is gone, all pending motions too");
        DebateHouse house = house();
        due.is("main", move(house, Acts.MAIN, 2, 5), 0);
        due.is("table without a paper", move(house, Acts.TABLE, 0, 0), 6);
        Acts.vote(house, 7, 0);
        due.is("motions pending", house.beside(4, 5), 0);
        due.is("CLAUSES", house.beside(4, 8), -1);
        due.is("CLAUSES of the session", house.state(8), 2);
    }

    private static void whats() {
        due.by("what as state(), 11 + i: RULING of act i, 400 + i: text of clause i in order (NONE without)");
        DebateHouse house = houseWithPaper();
        Acts.ask(house, 1);
        Acts.ask(house, 2);
        Acts.call(house);
        Acts.pass(house, 2);
        Acts.move(house, 1, Acts.LIMIT, 5, 0);
        Acts.come(house, 3);
        int[] states = {3, 1, 1, 7, 9, 1, 0, 0, 4, 2, 11};
        for (int what = 0; what < states.length; what++) {
            due.is("beside(10, " + what + ")", house.beside(10, what), states[what]);
        }
        for (int i = 0; i < 11; i++) {
            due.is("beside(10, 11 + " + i + ")", house.beside(10, RULING + i), i == 10 ? 6 : 0);
        }
        for (int k = 0; k < 4; k++) {
            due.is("beside(10, 400 + " + k + ")", house.beside(10, TEXT + k), 100 + k);
        }
        for (int what : new int[] {-1, -2, 22, 23, 310, 311, 399, 404, 405, 439, 440, 441, 719, 720, 1000, MIN, MAX}) {
            due.is("beside(10, " + what + ")", house.beside(10, what), -1);
        }
    }

    private static void withoutTheAct() {
        due.by("NONE without such (IV), or for another what");
        DebateHouse house = house();
        for (int act : new int[] {-1, 3, 4, 299, 300, 301, MIN, MAX}) {
            for (int what : new int[] {-1, 0, 10, RULING, TEXT}) {
                due.is("beside(" + act + ", " + what + ")", house.beside(act, what), -1);
            }
        }
        due.is("beside(2, 0)", house.beside(2, 0), 2);
        due.is("of a new object", new DebateHouse().beside(0, 10), -1);
    }

    private static void threeHundredActs() {
        due.by("11 + i: RULING of act i");
        DebateHouse house = house();
        for (int i = 3; i < 300; i++) {
            Acts.pass(house, 1);
        }
        due.is("beside(299, 310)", house.beside(299, RULING + 299), 6);
        due.is("beside(299, 309)", house.beside(299, RULING + 298), 0);
        due.is("beside(299, 311)", house.beside(299, RULING + 300), -1);
        due.is("beside(299, 9)", house.beside(299, 9), 296);
        due.is("beside(299, 10)", house.beside(299, 10), 300);
        due.is("beside(0, 310)", house.beside(0, RULING + 299), 0);
        due.is("beside(300, 0)", house.beside(300, 0), -1);
    }

    private static void sessionStays() {
        due.by("BESIDE: the session worked anew (that of the acts is as it was)");
        DebateHouse house = houseWithPaper();
        Acts.ask(house, 1);
        Acts.call(house);
        Acts.yieldTo(house, 1);
        Acts.move(house, 2, Acts.APPEAL, 0, 0);
        for (int act = 0; act < house.state(10); act++) {
            house.beside(act, 0);
        }
        int[] states = {3, 0, 1, 9, 9, 1, 0, 0, 4, 0, 9};
        for (int what = 0; what < states.length; what++) {
            due.is("state(" + what + ")", house.state(what), states[what]);
        }
        due.is("passed(4)", house.passed(4), 1);
        due.is("ruling(7)", house.ruling(7), 6);
        due.is("speeches(1)", house.speeches(1), 1);
        due.is("vote", Acts.vote(house, 7, 0), 0);
        due.is("overturned(7)", house.overturned(7), 1);
        for (int act = 0; act < house.state(10); act++) {
            house.beside(act, 0);
        }
        due.is("overturned(7)", house.overturned(7), 1);
        due.is("the FLOOR", house.state(2), 1);
    }
}

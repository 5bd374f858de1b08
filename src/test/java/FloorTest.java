/** Promises 5 (school), 6 (act: come, leave, ask, call, pass, yield), 7 (ruling), 9 (state), 13 (speeches), 14 (waits). */
public final class FloorTest {
    private static final Due due = new Due();

    public static void main(String[] args) {
        schools();
        comeAndLeave();
        askAndCall();
        turnsByMembers();
        turnsBySchools();
        passing();
        yielding();
        yieldingRuledOut();
        leastRefusal();
        threeHundredActs();
        due.finish();
    }

    private static void schools() {
        DebateHouse house = new DebateHouse();
        due.is("school(0, 0)", house.school(0, 0), true);
        due.is("school(23, 7)", house.school(23, 7), true);
        due.is("school(-1, 0)", house.school(-1, 0), false);
        due.is("school(24, 0)", house.school(24, 0), false);
        due.is("school(0, -1)", house.school(0, -1), false);
        due.is("school(0, 8)", house.school(0, 8), false);
        Acts.leave(house, 0);
        due.is("school behind a refused act", house.school(0, 1), false);
    }

    private static void comeAndLeave() {
        DebateHouse house = new DebateHouse();
        due.is("come 23", Acts.come(house, 23), 0);
        due.is("come 23 again", Acts.come(house, 23), 2);
        due.is("come 24", Acts.come(house, 24), 1);
        due.is("come -1", Acts.come(house, -1), 1);
        due.is("state(0)", house.state(0), 1);
        due.is("leave 23", Acts.leave(house, 23), 0);
        due.is("leave 23 again", Acts.leave(house, 23), 2);
        due.is("leave 24", Acts.leave(house, 24), 1);
        due.is("state(0)", house.state(0), 0);
        due.is("state(10)", house.state(10), 7);
        due.is("ruling(0)", house.ruling(0), 0);
        due.is("ruling(1)", house.ruling(1), 2);
        due.is("ruling(2)", house.ruling(2), 1);
        due.is("ruling(6)", house.ruling(6), 1);
        due.is("ruling(7)", house.ruling(7), -1);
        due.is("ruling(-1)", house.ruling(-1), -1);
        due.is("act(-1)", house.act(-1, 0, 0, 0, 0), -1);
        due.is("act(10)", house.act(10, 0, 0, 0, 0), -1);
        due.is("state(10)", house.state(10), 7);
    }

    private static void askAndCall() {
        DebateHouse house = Due.house("time 5;", 4);
        due.is("call, none waits", Acts.call(house), 6);
        due.is("ask 0", Acts.ask(house, 0), 0);
        due.is("ask 0 again", Acts.ask(house, 0), 6);
        due.is("ask 5, who is not there", Acts.ask(house, 5), 2);
        due.is("ask 1", Acts.ask(house, 1), 0);
        due.is("state(1)", house.state(1), 2);
        due.is("call", Acts.call(house), 0);
        due.is("state(2)", house.state(2), 0);
        due.is("state(3)", house.state(3), 5);
        due.is("state(1)", house.state(1), 1);
        due.is("speeches(0)", house.speeches(0), 1);
        due.is("call, someone has it", Acts.call(house), 6);
        due.is("ask by who has it", Acts.ask(house, 0), 6);
        due.is("speeches(0)", house.speeches(0), 1);
        Acts.leave(house, 1);
        due.is("state(1) as he left", house.state(1), 0);
        Acts.leave(house, 0);
        due.is("state(2) as he left", house.state(2), -1);
        due.is("state(3) as he left", house.state(3), 0);
        due.is("speeches(0) as he left", house.speeches(0), 1);
        due.is("speeches(24)", house.speeches(24), -1);
        due.is("speeches(-1)", house.speeches(-1), -1);
        due.is("come back", Acts.come(house, 0), 0);
        due.is("ask", Acts.ask(house, 0), 0);
    }

    private static void turnsByMembers() {
        DebateHouse house = Due.house("time 1;", 4);
        Acts.ask(house, 2);
        Acts.call(house);
        Acts.pass(house, 1);
        Acts.ask(house, 2);
        Acts.ask(house, 3);
        Acts.ask(house, 1);
        int[] order = {3, 1, 2, -1};
        for (int k = 0; k < order.length; k++) {
            due.is("waits(" + k + ")", house.waits(k), order[k]);
        }
        due.is("waits(-1)", house.waits(-1), -1);
        for (int k = 0; k < 3; k++) {
            due.is("call", Acts.call(house), 0);
            due.is("who has it", house.state(2), order[k]);
            Acts.pass(house, 1);
        }
        due.is("speeches(2)", house.speeches(2), 2);
    }

    private static void turnsBySchools() {
        DebateHouse house = new DebateHouse();
        Due.rules(house, "turns schools;time 1;");
        for (int m = 0; m < 6; m++) {
            house.school(m, m / 3);
        }
        for (int m = 0; m < 6; m++) {
            Acts.come(house, m);
        }
        for (int m : new int[] {0, 1, 2, 5, 4}) {
            Acts.ask(house, m);
        }
        int[] order = {0, 5, 1, 4, 2};
        for (int k = 0; k < order.length; k++) {
            due.is("waits(" + k + ")", house.waits(k), order[k]);
        }
        due.is("waits(5)", house.waits(5), -1);
        due.is("speeches(0) is as it was", house.speeches(0), 0);
        due.is("state(1) is as it was", house.state(1), 5);
        Acts.call(house);
        due.is("state(2)", house.state(2), 0);
        Acts.pass(house, 1);
        Acts.leave(house, 0);
        due.is("waits(0): speeches of one who left count for his school", house.waits(0), 5);
        Acts.call(house);
        due.is("state(2)", house.state(2), 5);
        due.is("waits(0) as someone has the floor", house.waits(0), 1);
    }

    private static void passing() {
        DebateHouse house = Due.house("time 10;", 2);
        due.is("pass 0", Acts.pass(house, 0), 1);
        due.is("pass 10000", Acts.pass(house, 10000), 1);
        due.is("pass -1", Acts.pass(house, -1), 1);
        due.is("pass 9999", Acts.pass(house, 9999), 0);
        due.is("state(9)", house.state(9), 9999);
        Acts.ask(house, 0);
        Acts.call(house);
        Acts.pass(house, 9);
        due.is("state(3)", house.state(3), 1);
        due.is("state(2)", house.state(2), 0);
        Acts.pass(house, 3);
        due.is("state(3)", house.state(3), 0);
        due.is("state(2)", house.state(2), -1);
        due.is("state(9)", house.state(9), 10011);
    }

    private static void yielding() {
        DebateHouse house = Due.house("time 10;", 4);
        due.is("yield, nobody has it", Acts.yieldTo(house, 1), 6);
        Acts.ask(house, 0);
        Acts.ask(house, 1);
        Acts.call(house);
        Acts.pass(house, 4);
        due.is("yield to who has it", Acts.yieldTo(house, 0), 6);
        due.is("yield to who is not there", Acts.yieldTo(house, 4), 2);
        due.is("yield to none", Acts.yieldTo(house, 24), 1);
        due.is("yield", Acts.yieldTo(house, 1), 0);
        due.is("state(2)", house.state(2), 1);
        due.is("state(3)", house.state(3), 6);
        due.is("he goes on waiting", house.waits(0), 1);
        due.is("speeches(1)", house.speeches(1), 0);
        due.is("ask by who has it", Acts.ask(house, 1), 6);
        due.is("yield again", Acts.yieldTo(house, 2), 6);
        Acts.pass(house, 6);
        due.is("state(2)", house.state(2), -1);
        Acts.call(house);
        due.is("state(2)", house.state(2), 1);
        due.is("yield anew", Acts.yieldTo(house, 0), 0);
        Acts.leave(house, 0);
        due.is("the floor goes with him", house.state(2), -1);
    }

    private static void yieldingRuledOut() {
        DebateHouse house = Due.house("yields no;", 2);
        Acts.ask(house, 0);
        Acts.call(house);
        due.is("yield", Acts.yieldTo(house, 1), 6);
        due.is("state(2)", house.state(2), 0);
    }

    private static void leastRefusal() {
        DebateHouse house = Due.house("quorum 2;motion recess rank 1 pass chair;motion adjourn rank 2 pass chair;", 1);
        due.is("ask below the quorum", Acts.ask(house, 0), 4);
        due.is("call below the quorum", Acts.call(house), 4);
        due.is("pass below the quorum", Acts.pass(house, 1), 4);
        due.is("yield below the quorum", Acts.yieldTo(house, 0), 4);
        due.is("vote below the quorum", house.act(8, 0, 0, 0, 0), 4);
        due.is("rule below the quorum", house.act(9, 0, 0, 0, 0), 4);
        due.is("rule with a number not as told", house.act(9, 0, 0, 2, 0), 1);
        due.is("ask by one not there", Acts.ask(house, 1), 2);
        due.is("come", Acts.come(house, 1), 0);
        due.is("move recess", house.act(6, 0, 5, 10, 0), 0);
        due.is("rule 1", house.act(9, 0, 0, 1, 0), 0);
        due.is("state(6)", house.state(6), 10);
        due.is("ask in a recess", Acts.ask(house, 0), 5);
        due.is("call in a recess", Acts.call(house), 5);
        due.is("move in a recess", house.act(6, 0, 6, 0, 0), 5);
        due.is("leave in a recess", Acts.leave(house, 1), 0);
        due.is("ask: 4 is below 5", Acts.ask(house, 0), 4);
        due.is("come in a recess", Acts.come(house, 1), 0);
        due.is("pass in a recess", Acts.pass(house, 9), 0);
        due.is("state(6)", house.state(6), 1);
        due.is("pass", Acts.pass(house, 5), 0);
        due.is("state(6)", house.state(6), 0);
        due.is("move adjourn", house.act(6, 0, 6, 0, 0), 0);
        due.is("rule 1", house.act(9, 0, 0, 1, 0), 0);
        due.is("state(7)", house.state(7), 1);
        due.is("pass when it is over", Acts.pass(house, 1), 3);
        due.is("ask when it is over", Acts.ask(house, 0), 3);
        due.is("leave when it is over", Acts.leave(house, 0), 0);
        due.is("call: 3 is below 4", Acts.call(house), 3);
        due.is("come when it is over", Acts.come(house, 0), 0);
    }

    private static void threeHundredActs() {
        DebateHouse house = new DebateHouse();
        for (int i = 0; i < 300; i++) {
            due.is("act " + i, Acts.call(house), 6);
        }
        due.is("one act more", Acts.call(house), -1);
        due.is("state(10)", house.state(10), 300);
        due.is("ruling(299)", house.ruling(299), 6);
        due.is("ruling(300)", house.ruling(300), -1);
        due.is("overturned(299)", house.overturned(299), 0);
        due.is("overturned(300)", house.overturned(300), -1);
    }
}

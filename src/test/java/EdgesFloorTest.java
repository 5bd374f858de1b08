/**
 * The boundary cases of Terms II as to who is there, waits and speaks, and of promises 1, 5 (school), 6 (act), 7 (ruling),
 * 9 (state), 13 (speeches) and 14 (waits), a sentence at a time.
 */
public final class EdgesFloorTest {
    private static final Due due = new Due();
    private static final int MIN = Integer.MIN_VALUE;
    private static final int MAX = Integer.MAX_VALUE;
    private static final int[] NO_MEMBERS = {-1, 24, 25, 31, 32, 56, MIN, MAX};
    private static final String CHAIR = "motion limit rank 1 pass half;motion recess rank 2 pass chair;"
        + "motion adjourn rank 3 pass chair;";

    public static void main(String[] args) {
        newObject();
        schools();
        threeHundredActs();
        noSuchAct();
        noSuchMember();
        ofNoMatter();
        thereOrNot();
        sessionOver();
        quorum();
        recess();
        leastNumber();
        leaving();
        asking();
        calling();
        fewestSpeeches();
        whoAskedFirst();
        fewestOfSchools();
        countedAsCalled();
        passing();
        recessTicks();
        yielding();
        yieldedOnce();
        waits();
        states();
        due.finish();
    }

    private static void carry(DebateHouse house, int kind, int a) {
        due.is("move", Acts.move(house, 0, kind, a, 0), 0);
        due.is("rule", Acts.rule(house, 1), 0);
    }

    private static void newObject() {
        due.by("No RULES, no MEMBERS there, all of SCHOOL 0");
        DebateHouse house = new DebateHouse();
        int[] states = {0, 0, -1, 0, 60, 0, 0, 0, -1, 0, 0};
        for (int what = 0; what < states.length; what++) {
            due.is("state(" + what + ")", house.state(what), states[what]);
        }
        for (int m = 0; m < 24; m++) {
            due.is("score of " + m + " by a judge of SCHOOL 0", house.score(0, 0, m, m), true);
            due.is("score of " + m + " by a judge of SCHOOL 1", house.score(1, 1, m, 50), true);
        }
        for (int m = 0; m < 24; m++) {
            due.is("mean(" + m + ")", house.mean(m), 500);
            due.is("speeches(" + m + ")", house.speeches(m), 0);
            due.is("leave " + m, Acts.leave(house, m), 2);
        }
        due.is("a KIND that no RULES let", Acts.come(house, 0) + Acts.move(house, 0, Acts.ADJOURN, 0, 0), 6);
    }

    private static void schools() {
        due.by("A MEMBER is of a SCHOOL: true; false, and nothing happens: none such, or there was an act");
        DebateHouse house = new DebateHouse();
        for (int m : NO_MEMBERS) {
            due.is("school(" + m + ", 0)", house.school(m, 0), false);
        }
        for (int school : new int[] {-1, 8, 9, MIN, MAX}) {
            due.is("school(3, " + school + ")", house.school(3, school), false);
        }
        due.is("school(0, 7)", house.school(0, 7), true);
        due.is("school(23, 7)", house.school(23, 7), true);
        due.is("school(23, 0), anew", house.school(23, 0), true);
        due.is("no act", house.act(10, 0, 0, 0, 0), -1);
        due.is("school(1, 7) behind no act", house.school(1, 7), true);
        due.is("a refused act", Acts.leave(house, 0), 2);
        due.is("school(2, 7) behind it", house.school(2, 7), false);
        house.score(0, 7, 0, 1);
        house.score(0, 7, 1, 2);
        house.score(0, 7, 2, 3);
        house.score(0, 7, 23, 4);
        int[] means = {-1, -1, 0, 1000};
        int[] members = {0, 1, 2, 23};
        for (int i = 0; i < members.length; i++) {
            due.is("mean(" + members[i] + ") by a judge of SCHOOL 7", house.mean(members[i]), means[i]);
        }
    }

    private static void threeHundredActs() {
        due.by("ACTS are numbered from 0 on (300 at most), refused ones too");
        DebateHouse house = new DebateHouse();
        due.is("ruling(0) without it", house.ruling(0), -1);
        for (int i = 0; i < 300; i++) {
            if (i % 50 < 2) {
                due.is("acts", house.state(10), i);
            }
            due.is("act " + i, i % 2 == 0 ? Acts.come(house, 0) : Acts.come(house, 24), i == 0 ? 0 : i % 2 == 0 ? 2 : 1);
        }
        due.by("NONE, and it is no act: no such act, or there are 300");
        due.is("leave 0 as there are 300", Acts.leave(house, 0), -1);
        due.is("acts", house.state(10), 300);
        due.is("MEMBERS there", house.state(0), 1);
        due.by("RULING of an act; NONE without it");
        due.is("ruling(0)", house.ruling(0), 0);
        due.is("ruling(298)", house.ruling(298), 2);
        due.is("ruling(299)", house.ruling(299), 1);
        for (int act : new int[] {300, 301, -1, MIN, MAX}) {
            due.is("ruling(" + act + ")", house.ruling(act), -1);
            due.is("passed(" + act + ")", house.passed(act), -1);
            due.is("overturned(" + act + ")", house.overturned(act), -1);
            due.is("beside(" + act + ", 0)", house.beside(act, 0), -1);
        }
        due.is("overturned(299)", house.overturned(299), 0);
    }

    private static void noSuchAct() {
        due.by("NONE, and it is no act: no such act");
        DebateHouse house = new DebateHouse();
        for (int what : new int[] {-1, 10, 11, 256, MIN, MAX}) {
            due.is("act(" + what + ")", house.act(what, 0, 0, 0, 0), -1);
            due.is("acts", house.state(10), 0);
        }
        due.is("ruling(0)", house.ruling(0), -1);
    }

    private static void noSuchMember() {
        due.by("1 no such MEMBER");
        DebateHouse house = Due.house(CHAIR, 24);
        for (int m : NO_MEMBERS) {
            due.is("come " + m, Acts.come(house, m), 1);
            due.is("leave " + m, Acts.leave(house, m), 1);
            due.is("ask " + m, Acts.ask(house, m), 1);
            due.is("yield " + m, Acts.yieldTo(house, m), 1);
            due.is("move " + m, Acts.move(house, m, Acts.LIMIT, 5, 0), 1);
            due.is("second " + m, Acts.second(house, m), 1);
            due.is("speeches(" + m + ")", house.speeches(m), -1);
        }
        due.is("MEMBERS there", house.state(0), 24);
        due.is("ask 23", Acts.ask(house, 23), 0);
        due.is("ask 0", Acts.ask(house, 0), 0);
        due.is("leave 23", Acts.leave(house, 23), 0);
        due.is("come 23", Acts.come(house, 23), 0);
    }

    private static void ofNoMatter() {
        due.by("m is its MEMBER (of call, pass, vote, rule of no matter)");
        for (int m : new int[] {-1, 0, 23, 24, MIN, MAX}) {
            DebateHouse house = Due.house(CHAIR, 1);
            due.is("ask", house.act(2, 0, m, m, m), 0);
            due.is("call", house.act(3, m, m, m, m), 0);
            due.is("pass", house.act(4, m, m, 60, m), 0);
            due.is("move", house.act(6, 0, Acts.LIMIT, 5, 0), 0);
            due.is("vote", house.act(8, m, m, 1, 0), 0);
            due.is("move", house.act(6, 0, Acts.RECESS, 5, 0), 0);
            due.is("rule", house.act(9, m, m, 1, m), 0);
            due.is("leave", house.act(1, 0, m, m, m), 0);
            due.is("come", house.act(0, 0, m, m, m), 0);
        }
        due.by("kind that of move, a, b its numbers (others of no matter)");
        DebateHouse house = Due.house(CHAIR, 2);
        for (int what = 0; what < 6; what++) {
            house.act(what, what == 5 ? 1 : 0, Acts.LIMIT, 3, 3);
        }
        int[] rulings = {2, 0, 2, 6, 0, 6};
        for (int what = 0; what < rulings.length; what++) {
            due.is("act " + what, house.ruling(2 + what), rulings[what]);
        }
        house.act(0, 0, Acts.LIMIT, 3, 3);
        house.act(2, 0, Acts.LIMIT, 3, 3);
        house.act(3, 0, Acts.LIMIT, 3, 3);
        due.is("yield", house.act(5, 1, Acts.LIMIT, 3, 3), 0);
        int[] states = {2, 0, 1, 60, 60, 0, 0, 0, -1, 3, 12};
        for (int what = 0; what < states.length; what++) {
            due.is("state(" + what + ")", house.state(what), states[what]);
        }
    }

    private static void thereOrNot() {
        due.by("2 he is not there (of come: he is there)");
        DebateHouse house = Due.house(CHAIR, 2);
        due.is("come 0, who is there", Acts.come(house, 0), 2);
        due.is("leave 2, who is not", Acts.leave(house, 2), 2);
        due.is("ask 2", Acts.ask(house, 2), 2);
        due.is("yield 2", Acts.yieldTo(house, 2), 2);
        due.is("move 2", Acts.move(house, 2, Acts.LIMIT, 5, 0), 2);
        due.is("second 2", Acts.second(house, 2), 2);
        due.is("MEMBERS there", house.state(0), 2);
        due.is("leave 1", Acts.leave(house, 1), 0);
        due.is("leave 1 again", Acts.leave(house, 1), 2);
        due.is("come 1", Acts.come(house, 1), 0);
        due.is("come 1 again", Acts.come(house, 1), 2);
    }

    private static void sessionOver() {
        due.by("3 the session is over (but come and leave: never)");
        DebateHouse house = Due.house(CHAIR, 3);
        Acts.ask(house, 1);
        due.is("state(7)", house.state(7), 0);
        carry(house, Acts.ADJOURN, 0);
        due.is("state(7)", house.state(7), 1);
        due.is("ask", Acts.ask(house, 0), 3);
        due.is("call", Acts.call(house), 3);
        due.is("pass", Acts.pass(house, 1), 3);
        due.is("yield", Acts.yieldTo(house, 0), 3);
        due.is("move", Acts.move(house, 0, Acts.LIMIT, 5, 0), 3);
        due.is("second", Acts.second(house, 0), 3);
        due.is("vote", Acts.vote(house, 1, 0), 3);
        due.is("rule", Acts.rule(house, 1), 3);
        due.is("come", Acts.come(house, 3), 0);
        due.is("leave", Acts.leave(house, 3), 0);
        due.is("ticks gone by", house.state(9), 0);
        due.is("those who wait", house.state(1), 1);
        due.is("leave of who waits", Acts.leave(house, 1), 0);
        due.is("those who wait", house.state(1), 0);
        due.is("state(7)", house.state(7), 1);
    }

    private static void quorum() {
        due.by("4 fewer are there than the quorum (come, leave: never)");
        DebateHouse house = Due.house("quorum 24;" + CHAIR, 23);
        due.is("ask", Acts.ask(house, 0), 4);
        due.is("call", Acts.call(house), 4);
        due.is("pass", Acts.pass(house, 1), 4);
        due.is("yield", Acts.yieldTo(house, 0), 4);
        due.is("move", Acts.move(house, 0, Acts.LIMIT, 5, 0), 4);
        due.is("second", Acts.second(house, 0), 4);
        due.is("vote", Acts.vote(house, 1, 0), 4);
        due.is("rule", Acts.rule(house, 1), 4);
        due.is("leave", Acts.leave(house, 22), 0);
        due.is("come", Acts.come(house, 22), 0);
        due.is("come: as many as the quorum", Acts.come(house, 23), 0);
        due.is("ask", Acts.ask(house, 0), 0);
        due.is("pass", Acts.pass(house, 1), 0);
        due.is("leave", Acts.leave(house, 5), 0);
        due.is("pass", Acts.pass(house, 1), 4);
        due.by("quorum 0 without");
        DebateHouse empty = new DebateHouse();
        due.is("pass with none there", Acts.pass(empty, 1), 0);
        due.is("call with none there", Acts.call(empty), 6);
        due.is("vote with none there", Acts.vote(empty, 0, 0), 6);
        due.is("rule with none there", Acts.rule(empty, 0), 6);
        DebateHouse one = Due.house("quorum 1;", 0);
        due.is("pass with none there", Acts.pass(one, 1), 4);
        due.is("come", Acts.come(one, 0), 0);
        due.is("pass with one there", Acts.pass(one, 1), 0);
    }

    private static void recess() {
        due.by("5 a RECESS (all but come, leave, pass)");
        DebateHouse house = Due.house(CHAIR, 3);
        Acts.ask(house, 0);
        Acts.call(house);
        Acts.ask(house, 1);
        carry(house, Acts.RECESS, 2);
        due.is("ask", Acts.ask(house, 2), 5);
        due.is("call", Acts.call(house), 5);
        due.is("yield", Acts.yieldTo(house, 1), 5);
        due.is("move", Acts.move(house, 0, Acts.LIMIT, 5, 0), 5);
        due.is("second", Acts.second(house, 0), 5);
        due.is("vote", Acts.vote(house, 1, 0), 5);
        due.is("rule", Acts.rule(house, 1), 5);
        due.is("come", Acts.come(house, 3), 0);
        due.is("leave", Acts.leave(house, 3), 0);
        due.is("pass", Acts.pass(house, 1), 0);
        due.is("ask with one tick left", Acts.ask(house, 2), 5);
        due.is("pass", Acts.pass(house, 1), 0);
        due.is("ask with none left", Acts.ask(house, 2), 0);
    }

    private static void leastNumber() {
        due.by("Each has a RULING: 0, or the least number that refuses it");
        DebateHouse over = Due.house("quorum 2;" + CHAIR, 2);
        carry(over, Acts.ADJOURN, 0);
        Acts.leave(over, 1);
        due.is("1 ahead of 2, 3, 4, 6", Acts.move(over, 1, Acts.LIMIT, 1000, 0), 1);
        due.is("1 ahead of 3, 4, 6: a vote of one not there", Acts.vote(over, 2, 0), 1);
        due.is("1 ahead of 3, 4, 6: a vote of one in both", Acts.vote(over, 1, 1), 1);
        due.is("1 ahead of 3, 4, 6", Acts.rule(over, 2), 1);
        due.is("1 ahead of 3, 4", Acts.pass(over, 0), 1);
        due.is("2 ahead of 3, 4, 6", Acts.move(over, 1, Acts.LIMIT, 0, 0), 2);
        due.is("2 ahead of 3, 4, 6", Acts.yieldTo(over, 1), 2);
        due.is("2 ahead of 3, 4, 6", Acts.second(over, 1), 2);
        due.is("3 ahead of 4, 6", Acts.move(over, 0, Acts.LIMIT, 0, 0), 3);
        due.is("3 ahead of 4, 6", Acts.call(over), 3);
        due.is("3 ahead of 4", Acts.pass(over, 1), 3);
        Acts.come(over, 1);
        due.is("3 ahead of 6", Acts.call(over), 3);
        DebateHouse rest = Due.house("quorum 2;" + CHAIR, 2);
        carry(rest, Acts.RECESS, 9);
        due.is("1 ahead of 5, 6", Acts.move(rest, 0, Acts.MAIN, 0, -1), 1);
        due.is("2 ahead of 5, 6", Acts.move(rest, 5, Acts.MAIN, 0, 0), 2);
        due.is("5 ahead of 6", Acts.move(rest, 0, Acts.MAIN, 0, 0), 5);
        due.is("5 ahead of 6", Acts.call(rest), 5);
        Acts.leave(rest, 1);
        due.is("1 ahead of 4, 5, 6", Acts.rule(rest, -1), 1);
        due.is("2 ahead of 4, 5, 6", Acts.ask(rest, 1), 2);
        due.is("4 ahead of 5, 6", Acts.call(rest), 4);
        due.is("4 in a RECESS", Acts.pass(rest, 1), 4);
    }

    private static void leaving() {
        due.by("come m, leave m (what he was waiting for, his floor, go; his motions stay)");
        DebateHouse house = Due.house(CHAIR + "time 9;", 4);
        Acts.ask(house, 0);
        Acts.ask(house, 1);
        Acts.ask(house, 2);
        Acts.call(house);
        Acts.move(house, 0, Acts.LIMIT, 5, 0);
        due.is("leave 1, who waits", Acts.leave(house, 1), 0);
        due.is("those who wait", house.state(1), 1);
        due.is("the FLOOR", house.state(2), 0);
        due.is("leave 0, who has the FLOOR", Acts.leave(house, 0), 0);
        due.is("the FLOOR", house.state(2), -1);
        due.is("its time", house.state(3), 0);
        due.is("his motions stay", house.state(5), 1);
        due.is("he moved it", house.pending(0, 1), 0);
        due.is("his SPEECHES stay", house.speeches(0), 1);
        due.is("come 1", Acts.come(house, 1), 0);
        due.is("he waits no more", house.state(1), 1);
        due.is("ask 1", Acts.ask(house, 1), 0);
        due.is("he is behind 2 now", house.waits(0), 2);
        due.is("come 0", Acts.come(house, 0), 0);
        due.is("call", Acts.call(house), 0);
        due.is("yield to 1, who waits", Acts.yieldTo(house, 1), 0);
        due.is("leave 1, who has the FLOOR and waits", Acts.leave(house, 1), 0);
        due.is("the FLOOR", house.state(2), -1);
        due.is("those who wait", house.state(1), 0);
        due.is("leave 3, who has nothing", Acts.leave(house, 3), 0);
        due.is("the motion is voted on as none of them is there", Acts.vote(house, 4, 0), 0);
    }

    private static void asking() {
        due.by("ask m: 6 he waits already, or has the floor");
        DebateHouse house = Due.house("time 2;", 24);
        for (int m = 23; m >= 0; m--) {
            due.is("ask " + m, Acts.ask(house, m), 0);
            due.is("ask " + m + " again", Acts.ask(house, m), 6);
        }
        due.is("those who wait", house.state(1), 24);
        due.is("call", Acts.call(house), 0);
        due.is("ask by who has the FLOOR", Acts.ask(house, 23), 6);
        due.is("pass", Acts.pass(house, 2), 0);
        due.is("ask by who had it", Acts.ask(house, 23), 0);
        due.is("those who wait", house.state(1), 24);
        DebateHouse other = Due.house("time 9;", 2);
        Acts.ask(other, 0);
        Acts.call(other);
        Acts.yieldTo(other, 1);
        due.is("ask by who has it by a yield", Acts.ask(other, 1), 6);
        due.is("ask by who gave it away", Acts.ask(other, 0), 0);
    }

    private static void calling() {
        due.by("call: the next one of those who wait has the FLOOR for TIME ticks: 6 none waits, or someone has it");
        DebateHouse house = Due.house(CHAIR + "time 9999;", 2);
        due.is("none waits", Acts.call(house), 6);
        Acts.ask(house, 0);
        due.is("call", Acts.call(house), 0);
        due.is("time left", house.state(3), 9999);
        due.is("someone has it, none waits", Acts.call(house), 6);
        Acts.ask(house, 1);
        due.is("someone has it, one waits", Acts.call(house), 6);
        due.is("SPEECHES of a call that was refused", house.speeches(1), 0);
        Acts.pass(house, 9998);
        due.is("someone has it for one tick", Acts.call(house), 6);
        Acts.pass(house, 1);
        due.is("move limit", Acts.move(house, 0, Acts.LIMIT, 1, 0), 0);
        due.is("vote", Acts.vote(house, 1, 0), 0);
        due.is("call", Acts.call(house), 0);
        due.is("TIME is another one now", house.state(3), 1);
        Acts.pass(house, 1);
        due.is("none waits", Acts.call(house), 6);
    }

    private static void speak(DebateHouse house, int m) {
        due.is("ask " + m, Acts.ask(house, m), 0);
        due.is("call " + m, Acts.call(house), 0);
        due.is("pass", Acts.pass(house, 9999), 0);
    }

    private static void order(DebateHouse house, int... members) {
        for (int k = 0; k < members.length; k++) {
            due.is("waits(" + k + ")", house.waits(k), members[k]);
        }
        due.is("waits(" + members.length + ")", house.waits(members.length), -1);
        for (int m : members) {
            due.is("call", Acts.call(house), 0);
            due.is("the FLOOR", house.state(2), m);
            due.is("pass", Acts.pass(house, 9999), 0);
        }
    }

    private static void fewestSpeeches() {
        due.by("Of those who wait the one whose SPEECHES are fewest");
        DebateHouse house = Due.house("", 4);
        speak(house, 0);
        speak(house, 0);
        speak(house, 1);
        Acts.ask(house, 0);
        Acts.ask(house, 1);
        Acts.ask(house, 2);
        order(house, 2, 1, 0);
    }

    private static void whoAskedFirst() {
        due.by("of several who asked first");
        DebateHouse house = Due.house("", 24);
        int[] members = {5, 23, 0, 7, 1};
        for (int m : members) {
            Acts.ask(house, m);
        }
        order(house, members);
        Acts.ask(house, 1);
        Acts.ask(house, 23);
        Acts.leave(house, 1);
        Acts.come(house, 1);
        Acts.ask(house, 1);
        order(house, 23, 1);
    }

    private static void fewestOfSchools() {
        due.by("turns schools: those of all of his SCHOOL");
        DebateHouse house = new DebateHouse();
        Due.rules(house, "turns schools;");
        int[] schools = {7, 7, 7, 3, 3, 0};
        for (int m = 0; m < schools.length; m++) {
            house.school(m, schools[m]);
        }
        for (int m = 0; m < schools.length; m++) {
            Acts.come(house, m);
        }
        speak(house, 0);
        speak(house, 0);
        speak(house, 3);
        Acts.leave(house, 0);
        Acts.ask(house, 1);
        Acts.ask(house, 2);
        Acts.ask(house, 4);
        Acts.ask(house, 5);
        due.is("speeches(1): his own", house.speeches(1), 0);
        due.is("speeches(0)", house.speeches(0), 2);
        order(house, 5, 4, 1, 2);
        Acts.ask(house, 2);
        Acts.ask(house, 3);
        Acts.ask(house, 4);
        order(house, 3, 4, 2);
    }

    private static void countedAsCalled() {
        due.by("SPEECHES are counted as one is called");
        DebateHouse house = Due.house("time 9;", 3);
        Acts.ask(house, 0);
        due.is("speeches(0) as he waits", house.speeches(0), 0);
        Acts.call(house);
        due.is("speeches(0) as he is called", house.speeches(0), 1);
        Acts.yieldTo(house, 1);
        due.is("speeches(1) by a yield", house.speeches(1), 0);
        due.is("speeches(0)", house.speeches(0), 1);
        Acts.pass(house, 9);
        due.is("speeches(0) at the end", house.speeches(0), 1);
        due.is("speeches(1) at the end", house.speeches(1), 0);
    }

    private static void passing() {
        due.by("pass n (1 to 9999): ticks go by: the FLOOR's time falls, at 0 it is free");
        DebateHouse house = Due.house("time 10;", 2);
        for (int n : new int[] {0, -1, 10000, MIN, MAX}) {
            due.is("pass " + n, Acts.pass(house, n), 1);
        }
        due.is("ticks gone by", house.state(9), 0);
        int[][] rows = {{1, 9, 0}, {9, 1, 0}, {10, 0, -1}, {11, 0, -1}, {9999, 0, -1}};
        int ticks = 0;
        for (int[] row : rows) {
            Acts.ask(house, 0);
            due.is("call", Acts.call(house), 0);
            due.is("pass " + row[0], Acts.pass(house, row[0]), 0);
            due.is("time left", house.state(3), row[1]);
            due.is("the FLOOR", house.state(2), row[2]);
            due.is("pass 9999", Acts.pass(house, 9999), 0);
            due.is("the FLOOR", house.state(2), -1);
            ticks += row[0] + 9999;
            due.is("ticks gone by", house.state(9), ticks);
        }
        DebateHouse long300 = new DebateHouse();
        for (int n = 0; n < 300; n++) {
            Acts.pass(long300, 9999);
        }
        due.is("ticks gone by", long300.state(9), 2999700);
    }

    private static void recessTicks() {
        due.by("a RECESS's likewise");
        int[][] rows = {{1, 998}, {998, 1}, {999, 0}, {1000, 0}, {9999, 0}};
        for (int[] row : rows) {
            DebateHouse house = Due.house(CHAIR, 1);
            carry(house, Acts.RECESS, 999);
            due.is("RECESS", house.state(6), 999);
            due.is("pass " + row[0], Acts.pass(house, row[0]), 0);
            due.is("RECESS", house.state(6), row[1]);
            due.is("ask", Acts.ask(house, 0), row[1] > 0 ? 5 : 0);
        }
        DebateHouse both = Due.house(CHAIR + "time 3;", 1);
        Acts.ask(both, 0);
        Acts.call(both);
        carry(both, Acts.RECESS, 5);
        due.is("pass", Acts.pass(both, 2), 0);
        due.is("time left", both.state(3), 1);
        due.is("RECESS", both.state(6), 3);
        due.is("pass", Acts.pass(both, 1), 0);
        due.is("the FLOOR", both.state(2), -1);
        due.is("RECESS", both.state(6), 2);
    }

    private static void yielding() {
        due.by("6 nobody has it, m has it, it was yielded already, or the rules let none");
        DebateHouse house = Due.house("time 9;", 3);
        due.is("nobody has it", Acts.yieldTo(house, 0), 6);
        Acts.ask(house, 0);
        due.is("nobody has it, he waits", Acts.yieldTo(house, 0), 6);
        Acts.call(house);
        due.is("m has it", Acts.yieldTo(house, 0), 6);
        Acts.ask(house, 1);
        Acts.pass(house, 8);
        due.is("yield", Acts.yieldTo(house, 1), 0);
        due.by("m has the FLOOR for what is left (he goes on waiting, if he does)");
        due.is("the FLOOR", house.state(2), 1);
        due.is("time left", house.state(3), 1);
        due.is("those who wait", house.state(1), 1);
        due.is("waits(0)", house.waits(0), 1);
        Acts.pass(house, 1);
        due.is("the FLOOR", house.state(2), -1);
        due.is("yield as it is free", Acts.yieldTo(house, 2), 6);
        due.is("call", Acts.call(house), 0);
        due.is("the FLOOR", house.state(2), 1);
        due.is("yield to one who does not wait", Acts.yieldTo(house, 2), 0);
        due.is("those who wait", house.state(1), 0);
        due.by("the rules let none");
        DebateHouse none = Due.house("yields no;", 2);
        Acts.ask(none, 0);
        Acts.call(none);
        due.is("yield", Acts.yieldTo(none, 1), 6);
        due.is("the FLOOR", none.state(2), 0);
    }

    private static void yieldedOnce() {
        due.by("it was yielded already");
        DebateHouse house = Due.house("time 9;", 3);
        Acts.ask(house, 0);
        Acts.call(house);
        due.is("yield", Acts.yieldTo(house, 1), 0);
        due.is("to another one", Acts.yieldTo(house, 2), 6);
        due.is("back again", Acts.yieldTo(house, 0), 6);
        due.is("to who has it", Acts.yieldTo(house, 1), 6);
        due.is("leave", Acts.leave(house, 1), 0);
        Acts.ask(house, 0);
        Acts.call(house);
        due.is("a call later", Acts.yieldTo(house, 2), 0);
        due.is("and again", Acts.yieldTo(house, 0), 6);
        Acts.pass(house, 9);
        Acts.ask(house, 0);
        Acts.call(house);
        due.is("a call later", Acts.yieldTo(house, 2), 0);
    }

    private static void waits() {
        due.by("The k-th who would be called now, if nobody asked any more and each were called in turn; NONE");
        DebateHouse house = Due.house("time 9;", 24);
        for (int m = 0; m < 24; m++) {
            Acts.ask(house, 23 - m);
        }
        for (int k = 0; k < 24; k++) {
            due.is("waits(" + k + ")", house.waits(k), 23 - k);
        }
        for (int k : new int[] {24, 25, -1, MIN, MAX}) {
            due.is("waits(" + k + ")", house.waits(k), -1);
        }
        Acts.call(house);
        due.is("waits(0) as someone has the FLOOR", house.waits(0), 22);
        due.is("waits(-1) as someone has the FLOOR", house.waits(-1), -1);
        due.is("waits(22)", house.waits(22), 0);
        due.is("waits(23)", house.waits(23), -1);
        due.is("nothing happened: the FLOOR", house.state(2), 23);
        due.is("nothing happened: its time", house.state(3), 9);
        due.is("nothing happened: those who wait", house.state(1), 23);
        due.is("nothing happened: SPEECHES", house.speeches(0), 0);
        due.is("none waits", new DebateHouse().waits(0), -1);
    }

    private static void states() {
        due.by("NONE for another what");
        DebateHouse house = Due.house("time 7;", 24);
        for (int what : new int[] {-1, 11, 12, 400, MIN, MAX}) {
            due.is("state(" + what + ")", house.state(what), -1);
        }
        int[] states = {24, 0, -1, 0, 7, 0, 0, 0, -1, 0, 24};
        for (int what = 0; what < states.length; what++) {
            due.is("state(" + what + ")", house.state(what), states[what]);
        }
    }
}

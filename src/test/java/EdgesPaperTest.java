import java.util.Arrays;

/** The boundary cases of Terms III and of promises 11 (clause) and 12 (place), a sentence at a time. */
public final class EdgesPaperTest {
    private static final Due due = new Due();
    private static final int MIN = Integer.MIN_VALUE;
    private static final int MAX = Integer.MAX_VALUE;
    private static final int ADD = 0;
    private static final int STRIKE = 1;
    private static final int TEXT = 2;
    private static final int JOIN = 3;

    /** An appeal ranks below an amendment, so that an amendment can wait below others that pass ahead of it. */
    private static final String RULES = "motion main rank 10 pass half;motion amend rank 20 pass half;"
        + "motion appeal rank 1 pass half;motion table rank 30 pass half;";

    public static void main(String[] args) {
        numbers();
        texts();
        amendmentsByA();
        addBehind();
        strikes();
        newTexts();
        joins();
        neverThere();
        gone();
        joinWithNoneBehind();
        addWithForty();
        addBehindTheLastAhead();
        addAtTheFront();
        aheadWhenItWent();
        goneAheadToo();
        joinedAway();
        othersDoNothing();
        nothingAsItPasses();
        numbersOfANewPaper();
        manyNumbers();
        clauses();
        places();
        due.finish();
    }

    private static DebateHouse paperOf(int clauses, int text) {
        DebateHouse house = Due.house(RULES, 3);
        due.is("main", Acts.move(house, 0, Acts.MAIN, clauses, text), 0);
        pass(house);
        return house;
    }

    private static int amend(DebateHouse house, int kind, int number, int b) {
        return Acts.move(house, 0, Acts.AMEND, 4 * number + kind, b);
    }

    private static void pass(DebateHouse house) {
        due.is("vote", Acts.vote(house, 7, 0), 0);
        due.is("passed", house.passed(Acts.latest(house)), 1);
    }

    private static void carry(DebateHouse house, int kind, int number, int b) {
        due.is("amendment " + kind + " of " + number, amend(house, kind, number, b), 0);
        pass(house);
    }

    /** An amendment is moved and waits below an appeal: what is carried next is carried ahead of it. */
    private static void hold(DebateHouse house, int kind, int number, int b) {
        due.is("yield, refused", Acts.yieldTo(house, 0), 6);
        due.is("amendment " + kind + " of " + number, amend(house, kind, number, b), 0);
        due.is("appeal", Acts.move(house, 0, Acts.APPEAL, 0, 0), 0);
    }

    /** The appeal, then the amendment below it, pass. */
    private static void release(DebateHouse house) {
        pass(house);
        pass(house);
        due.is("none is pending", house.state(5), 0);
    }

    private static void check(DebateHouse house, String want) {
        int count = house.state(8);
        StringBuilder got = new StringBuilder();
        for (int k = 0; k < count; k++) {
            got.append(k == 0 ? "" : " ").append(house.clause(k, 0)).append(':').append(house.clause(k, 1));
            due.is("place of clause " + k, house.place(house.clause(k, 0)), k);
        }
        due.is("clauses are " + got + ", due are " + want, got.toString().equals(want), true);
    }

    private static void numbers() {
        due.by("each with a number (the first ones 0, 1, ..; then by those that come)");
        DebateHouse house = paperOf(2, 50);
        check(house, "0:50 1:51");
        carry(house, ADD, 0, 60);
        check(house, "0:50 2:60 1:51");
        carry(house, STRIKE, 2, 0);
        carry(house, ADD, 0, 61);
        check(house, "0:50 3:61 1:51");
        carry(house, ADD, 3, 62);
        check(house, "0:50 3:61 4:62 1:51");
    }

    private static void texts() {
        due.by("a text (0 to 2000)");
        DebateHouse house = paperOf(20, 999);
        due.is("the greatest of a main", house.clause(19, 1), 1018);
        carry(house, TEXT, 0, 0);
        carry(house, TEXT, 1, 999);
        carry(house, ADD, 19, 0);
        carry(house, ADD, 20, 999);
        due.is("clause(0, 1)", house.clause(0, 1), 0);
        due.is("clause(1, 1)", house.clause(1, 1), 999);
        due.is("clause(20, 1)", house.clause(20, 1), 0);
        due.is("clause(21, 1)", house.clause(21, 1), 999);
    }

    private static void amendmentsByA() {
        due.by("KIND of it a % 4, the clause a / 4 (0 to 249)");
        String[] want = {"0:50 4:9 1:51 2:52 3:53", "1:51 2:52 3:53", "0:9 1:51 2:52 3:53", "0:51 2:52 3:53",
            "0:50 1:51 4:9 2:52 3:53", "0:50 2:52 3:53", "0:50 1:9 2:52 3:53", "0:50 1:52 3:53"};
        for (int a = 0; a < want.length; a++) {
            DebateHouse house = paperOf(4, 50);
            due.is("amend " + a, Acts.move(house, 0, Acts.AMEND, a, 9), 0);
            pass(house);
            check(house, want[a]);
        }
        DebateHouse house = paperOf(4, 50);
        for (int a : new int[] {16, 17, 18, 19, 996, 997, 998, 999}) {
            due.is("amend " + a, Acts.move(house, 0, Acts.AMEND, a, 9), 6);
        }
        due.is("amend 1000", Acts.move(house, 0, Acts.AMEND, 1000, 9), 1);
    }

    private static void addBehind() {
        due.by("0 ADD a clause with text b behind that one");
        DebateHouse house = paperOf(3, 50);
        carry(house, ADD, 0, 1);
        check(house, "0:50 3:1 1:51 2:52");
        carry(house, ADD, 0, 2);
        check(house, "0:50 4:2 3:1 1:51 2:52");
        carry(house, ADD, 2, 3);
        check(house, "0:50 4:2 3:1 1:51 2:52 5:3");
        carry(house, ADD, 5, 4);
        check(house, "0:50 4:2 3:1 1:51 2:52 5:3 6:4");
        carry(house, STRIKE, 3, 0);
        carry(house, ADD, 4, 5);
        check(house, "0:50 4:2 7:5 1:51 2:52 5:3 6:4");
    }

    private static void strikes() {
        due.by("1 STRIKE it");
        DebateHouse house = paperOf(4, 50);
        carry(house, STRIKE, 0, 0);
        check(house, "1:51 2:52 3:53");
        carry(house, STRIKE, 3, 0);
        check(house, "1:51 2:52");
        carry(house, STRIKE, 1, 0);
        carry(house, STRIKE, 2, 0);
        check(house, "");
        due.is("CLAUSES: a paper of none is there", house.state(8), 0);
        due.is("clause(0, 0)", house.clause(0, 0), -1);
        due.is("clause(0, 1)", house.clause(0, 1), -1);
    }

    private static void newTexts() {
        due.by("2 its text is b");
        DebateHouse house = paperOf(3, 50);
        carry(house, TEXT, 1, 0);
        check(house, "0:50 1:0 2:52");
        carry(house, TEXT, 1, 999);
        check(house, "0:50 1:999 2:52");
        due.is("amend", amend(house, TEXT, 0, 7), 0);
        check(house, "0:50 1:999 2:52");
        due.is("vote against it", Acts.vote(house, 0, 7), 0);
        check(house, "0:50 1:999 2:52");
    }

    private static void joins() {
        due.by("3 JOIN: its text becomes the greater one of its own and that of the clause behind it, which goes");
        DebateHouse house = paperOf(5, 50);
        carry(house, JOIN, 0, 999);
        check(house, "0:51 2:52 3:53 4:54");
        carry(house, TEXT, 0, 90);
        carry(house, JOIN, 0, 0);
        check(house, "0:90 3:53 4:54");
        carry(house, TEXT, 3, 54);
        carry(house, JOIN, 3, 0);
        check(house, "0:90 3:54");
        carry(house, JOIN, 0, 0);
        check(house, "0:90");
        due.is("place(1)", house.place(1), -1);
    }

    private static void neverThere() {
        due.by("As it is moved: 6 no such clause was ever there");
        DebateHouse house = paperOf(2, 50);
        for (int kind = 0; kind < 4; kind++) {
            due.is("clause 2, kind " + kind, amend(house, kind, 2, 0), 6);
            due.is("clause 249, kind " + kind, amend(house, kind, 249, 0), 6);
        }
        carry(house, ADD, 1, 7);
        due.is("clause 2, which came", amend(house, STRIKE, 2, 0), 0);
        due.is("vote against it", Acts.vote(house, 0, 7), 0);
        due.is("clause 3", amend(house, STRIKE, 3, 0), 6);
    }

    private static void gone() {
        due.by("or it is GONE");
        DebateHouse house = paperOf(4, 50);
        carry(house, STRIKE, 0, 0);
        carry(house, JOIN, 1, 0);
        check(house, "1:52 3:53");
        for (int kind = 0; kind < 4; kind++) {
            due.is("a struck one, kind " + kind, amend(house, kind, 0, 0), 6);
            due.is("a joined one, kind " + kind, amend(house, kind, 2, 0), 6);
        }
        due.is("one that is there", amend(house, ADD, 1, 0), 0);
    }

    private static void joinWithNoneBehind() {
        due.by("JOIN: none is behind it");
        DebateHouse house = paperOf(3, 50);
        due.is("the last", amend(house, JOIN, 2, 0), 6);
        carry(house, STRIKE, 2, 0);
        due.is("the last now", amend(house, JOIN, 1, 0), 6);
        carry(house, JOIN, 0, 0);
        due.is("the only one", amend(house, JOIN, 0, 0), 6);
        carry(house, ADD, 0, 7);
        due.is("one is behind it now", amend(house, JOIN, 0, 0), 0);
    }

    private static DebateHouse paperOfThirtyNine() {
        DebateHouse house = paperOf(20, 100);
        for (int n = 20; n < 39; n++) {
            carry(house, ADD, 0, n);
        }
        due.is("CLAUSES", house.state(8), 39);
        return house;
    }

    private static void addWithForty() {
        due.by("ADD: 40 clauses are there");
        DebateHouse house = paperOfThirtyNine();
        carry(house, ADD, 19, 7);
        due.is("CLAUSES", house.state(8), 40);
        due.is("clause(39, 0)", house.clause(39, 0), 39);
        due.is("clause(40, 0)", house.clause(40, 0), -1);
        due.is("with 40", amend(house, ADD, 0, 7), 6);
        due.is("other amendments with 40", amend(house, TEXT, 0, 7), 0);
        pass(house);
        carry(house, JOIN, 0, 0);
        carry(house, ADD, 39, 8);
        due.is("CLAUSES", house.state(8), 40);
        due.is("place(40)", house.place(40), 39);
        due.is("with 40 again", amend(house, ADD, 0, 7), 6);
    }

    private static void addBehindTheLastAhead() {
        due.by("then ADD comes behind the last clause ahead of it that is still there");
        DebateHouse house = paperOf(4, 50);
        hold(house, ADD, 2, 7);
        carry(house, STRIKE, 2, 0);
        check(house, "0:50 1:51 3:53");
        release(house);
        check(house, "0:50 1:51 4:7 3:53");
        hold(house, ADD, 3, 8);
        carry(house, STRIKE, 3, 0);
        carry(house, STRIKE, 4, 0);
        release(house);
        check(house, "0:50 1:51 5:8");
    }

    private static void addAtTheFront() {
        due.by("none: at the front");
        DebateHouse house = paperOf(3, 50);
        hold(house, ADD, 0, 7);
        carry(house, STRIKE, 0, 0);
        release(house);
        check(house, "3:7 1:51 2:52");
        DebateHouse all = paperOf(3, 50);
        hold(all, ADD, 1, 7);
        carry(all, STRIKE, 1, 0);
        carry(all, STRIKE, 0, 0);
        release(all);
        check(all, "3:7 2:52");
        DebateHouse none = paperOf(1, 50);
        hold(none, ADD, 0, 7);
        carry(none, STRIKE, 0, 0);
        due.is("CLAUSES", none.state(8), 0);
        release(none);
        check(none, "1:7");
    }

    private static void aheadWhenItWent() {
        due.by("of those that were ahead of it when it went");
        DebateHouse later = paperOf(3, 50);
        hold(later, ADD, 1, 7);
        carry(later, STRIKE, 1, 0);
        carry(later, ADD, 0, 60);
        check(later, "0:50 3:60 2:52");
        release(later);
        check(later, "0:50 4:7 3:60 2:52");
        DebateHouse before = paperOf(3, 50);
        hold(before, ADD, 1, 7);
        carry(before, ADD, 0, 60);
        carry(before, STRIKE, 1, 0);
        release(before);
        check(before, "0:50 3:60 4:7 2:52");
        DebateHouse front = paperOf(2, 50);
        hold(front, ADD, 1, 7);
        carry(front, STRIKE, 1, 0);
        carry(front, ADD, 0, 60);
        carry(front, STRIKE, 0, 0);
        check(front, "2:60");
        release(front);
        check(front, "3:7 2:60");
    }

    private static void goneAheadToo() {
        due.by("the last clause ahead of it that is still there");
        DebateHouse house = paperOf(5, 50);
        carry(house, STRIKE, 2, 0);
        hold(house, ADD, 3, 7);
        carry(house, STRIKE, 1, 0);
        carry(house, STRIKE, 3, 0);
        release(house);
        check(house, "0:50 5:7 4:54");
    }

    private static void joinedAway() {
        due.by("GONE if its clause was taken away since");
        DebateHouse house = paperOf(3, 50);
        hold(house, ADD, 1, 7);
        carry(house, JOIN, 0, 0);
        check(house, "0:51 2:52");
        release(house);
        check(house, "0:51 3:7 2:52");
    }

    private static void othersDoNothing() {
        due.by("others do nothing");
        for (int kind : new int[] {STRIKE, TEXT, JOIN}) {
            for (int taken : new int[] {STRIKE, JOIN}) {
                DebateHouse house = paperOf(4, 50);
                hold(house, kind, 1, 7);
                carry(house, taken, taken == STRIKE ? 1 : 0, 0);
                String ahead = taken == STRIKE ? "0:50 2:52 3:53" : "0:51 2:52 3:53";
                check(house, ahead);
                release(house);
                check(house, ahead);
            }
        }
    }

    private static void nothingAsItPasses() {
        due.by("JOIN without one behind, ADD with 40: nothing");
        DebateHouse join = paperOf(3, 50);
        hold(join, JOIN, 1, 0);
        carry(join, STRIKE, 2, 0);
        release(join);
        check(join, "0:50 1:51");
        DebateHouse other = paperOf(3, 50);
        hold(other, JOIN, 0, 0);
        carry(other, STRIKE, 1, 0);
        release(other);
        check(other, "0:52");
        DebateHouse add = paperOfThirtyNine();
        hold(add, ADD, 5, 7);
        carry(add, ADD, 6, 8);
        due.is("CLAUSES", add.state(8), 40);
        release(add);
        due.is("CLAUSES", add.state(8), 40);
        due.is("place(39)", add.place(39), add.place(6) + 1);
        due.is("place(40)", add.place(40), -1);
        due.is("text behind 5", add.clause(add.place(5) + 1, 1), 106);
        DebateHouse gone = paperOfThirtyNine();
        hold(gone, ADD, 5, 7);
        carry(gone, STRIKE, 5, 0);
        carry(gone, ADD, 6, 8);
        carry(gone, ADD, 6, 9);
        due.is("CLAUSES", gone.state(8), 40);
        release(gone);
        due.is("CLAUSES", gone.state(8), 40);
        due.is("place(41): to one that is GONE with 40", gone.place(41), -1);
    }

    private static void numbersOfANewPaper() {
        due.by("the first ones 0, 1, ..");
        DebateHouse house = paperOf(3, 50);
        carry(house, ADD, 0, 7);
        carry(house, STRIKE, 1, 0);
        due.is("table", Acts.move(house, 0, Acts.TABLE, 0, 0), 0);
        pass(house);
        due.is("place(0)", house.place(0), -1);
        due.is("main", Acts.move(house, 0, Acts.MAIN, 2, 80), 0);
        pass(house);
        check(house, "0:80 1:81");
        due.is("a number of the paper ahead", amend(house, TEXT, 3, 0), 6);
        carry(house, ADD, 1, 5);
        check(house, "0:80 1:81 2:5");
    }

    /** As many clauses as 300 acts can bring: the numbers go far above 40. */
    private static void manyNumbers() {
        due.by("then by those that come");
        DebateHouse house = paperOf(20, 100);
        int next = 20;
        while (house.state(10) + 4 <= 300) {
            house.act(6, 0, Acts.AMEND, 4 * (next - 1), next);
            house.act(8, 0, 0, 7, 0);
            house.act(6, 0, Acts.AMEND, 4 * (next - 1) + STRIKE, 0);
            house.act(8, 0, 0, 7, 0);
            next++;
        }
        due.is("the last number", house.clause(19, 0), next - 1);
        due.is("the last text", house.clause(19, 1), next - 1);
        due.is("place of the last", house.place(next - 1), 19);
        due.is("place of the one ahead, GONE", house.place(next - 2), -1);
        due.is("place of the next, never there", house.place(next), -1);
    }

    private static void clauses() {
        due.by("Of clause k of the paper, in order; NONE without it, or for another what");
        DebateHouse without = new DebateHouse();
        DebateHouse house = paperOf(20, 100);
        for (int what : new int[] {-1, 0, 1, 2, MIN, MAX}) {
            for (int k : new int[] {-1, 0, 19, 20, 40, MIN, MAX}) {
                boolean there = (k == 0 || k == 19) && (what == 0 || what == 1);
                due.is("clause(" + k + ", " + what + ")", house.clause(k, what), there ? k + 100 * what : -1);
                due.is("clause(" + k + ", " + what + ") without a paper", without.clause(k, what), -1);
            }
        }
    }

    private static void places() {
        due.by("Where a clause's number is in the paper; NONE: GONE, or never there");
        DebateHouse house = paperOf(3, 50);
        carry(house, STRIKE, 0, 0);
        int[] numbers = {0, 1, 2, 3, 4, 40, 319, 320, 321, -1, MIN, MAX};
        int[] places = {-1, 0, 1, -1, -1, -1, -1, -1, -1, -1, -1, -1};
        int[] got = new int[numbers.length];
        for (int i = 0; i < numbers.length; i++) {
            got[i] = house.place(numbers[i]);
            due.is("place(" + numbers[i] + ") without a paper", new DebateHouse().place(numbers[i]), -1);
        }
        due.is("places " + Arrays.toString(got), Arrays.equals(got, places), true);
    }
}

/** The boundary cases of Terms V and of promises 17 (score), 18 (mean) and 19 (award), a sentence at a time. */
public final class EdgesAwardsTest {
    private static final Due due = new Due();
    private static final int MIN = Integer.MIN_VALUE;
    private static final int MAX = Integer.MAX_VALUE;

    public static void main(String[] args) {
        noSuchScore();
        schoolWithTheFirst();
        anew();
        otherSchools();
        scale();
        allAlike();
        means();
        noAward();
        order();
        everyone();
        atAnyTime();
        due.finish();
    }

    private static void score(DebateHouse house, int judge, int school, int member, int points) {
        due.is("score(" + judge + ", " + school + ", " + member + ", " + points + ")",
            house.score(judge, school, member, points), true);
    }

    private static void noSuchScore() {
        due.by("false, and nothing happens: no such JUDGE, MEMBER, SCHOOL, score");
        DebateHouse house = new DebateHouse();
        for (int judge : new int[] {-1, 6, 7, MIN, MAX}) {
            due.is("JUDGE " + judge, house.score(judge, 1, 0, 50), false);
        }
        for (int school : new int[] {-1, 8, 9, MIN, MAX}) {
            due.is("SCHOOL " + school, house.score(0, school, 0, 50), false);
        }
        for (int member : new int[] {-1, 24, 25, MIN, MAX}) {
            due.is("MEMBER " + member, house.score(0, 1, member, 50), false);
            due.is("mean(" + member + ")", house.mean(member), -1);
        }
        for (int points : new int[] {-1, 101, 102, MIN, MAX}) {
            due.is("score " + points, house.score(0, 1, 0, points), false);
        }
        due.is("mean(0)", house.mean(0), -1);
        due.is("award(0)", house.award(0), -1);
        score(house, 0, 7, 0, 0);
        score(house, 0, 7, 23, 100);
        score(house, 5, 1, 23, 100);
        due.is("mean(0)", house.mean(0), 0);
        due.is("mean(23)", house.mean(23), 750);
    }

    private static void schoolWithTheFirst() {
        due.by("each of a SCHOOL (told with the first score); or another SCHOOL than he had");
        DebateHouse house = new DebateHouse();
        due.is("a score that is refused tells none", house.score(0, 3, 0, 101), false);
        due.is("a score that is refused tells none", house.score(0, 3, 24, 50), false);
        score(house, 0, 4, 0, 50);
        for (int school = 0; school < 8; school++) {
            due.is("SCHOOL " + school, house.score(0, school, 1, 60), school == 4);
        }
        due.is("another SCHOOL, nothing happens", house.score(0, 5, 0, 100), false);
        due.is("mean(0) is the least", house.mean(0), 0);
        due.is("mean(1)", house.mean(1), 1000);
        score(house, 1, 5, 0, 50);
        score(house, 2, 0, 0, 50);
        due.is("SCHOOL 0 is one too", house.score(2, 1, 0, 50), false);
        due.is("other JUDGES have their own", house.score(1, 4, 0, 50), false);
    }

    private static void anew() {
        due.by("A score (anew, if there was one)");
        DebateHouse house = new DebateHouse();
        score(house, 0, 1, 0, 0);
        score(house, 0, 1, 1, 100);
        score(house, 0, 1, 2, 50);
        due.is("mean(2)", house.mean(2), 500);
        score(house, 0, 1, 1, 50);
        score(house, 0, 1, 0, 25);
        score(house, 0, 1, 2, 30);
        due.is("mean(0)", house.mean(0), 0);
        due.is("mean(1)", house.mean(1), 1000);
        due.is("mean(2)", house.mean(2), 200);
    }

    private static void otherSchools() {
        due.by("Of a JUDGE count scores of MEMBERS of other SCHOOLS");
        DebateHouse house = new DebateHouse();
        house.school(0, 1);
        house.school(1, 1);
        score(house, 0, 1, 0, 0);
        score(house, 0, 1, 1, 100);
        score(house, 0, 1, 2, 40);
        score(house, 0, 1, 3, 60);
        score(house, 0, 1, 4, 45);
        int[] means = {-1, -1, 0, 1000, 250};
        for (int m = 0; m < means.length; m++) {
            due.is("mean(" + m + "): the scale is of those that count", house.mean(m), means[m]);
        }
        score(house, 1, 0, 0, 7);
        score(house, 1, 0, 3, 90);
        due.is("mean(0) by another JUDGE", house.mean(0), 500);
        due.is("mean(3) by the one who is no kin", house.mean(3), 1000);
        house.school(0, 2);
        due.is("mean(0), kin no more", house.mean(0), 250);
        due.is("mean(2), the scale is another one", house.mean(2), 666);
    }

    private static void scale() {
        due.by("(score - least) * 1000 / (greatest - least), downwards, of those that count");
        DebateHouse house = new DebateHouse();
        score(house, 0, 1, 0, 0);
        score(house, 0, 1, 1, 100);
        for (int points = 0; points <= 100; points++) {
            score(house, 0, 1, 2, points);
            due.is("mean(2) of " + points, house.mean(2), 10 * points);
        }
        DebateHouse narrow = new DebateHouse();
        score(narrow, 0, 1, 0, 93);
        score(narrow, 0, 1, 1, 100);
        int[] means = {0, 142, 285, 428, 571, 714, 857, 1000};
        for (int n = 0; n < means.length; n++) {
            score(narrow, 0, 1, 2, 93 + n);
            due.is("mean(2) of " + (93 + n), narrow.mean(2), means[n]);
        }
        DebateHouse one = new DebateHouse();
        score(one, 0, 1, 0, 50);
        score(one, 0, 1, 1, 51);
        due.is("mean(0)", one.mean(0), 0);
        due.is("mean(1)", one.mean(1), 1000);
    }

    private static void allAlike() {
        due.by("500 if all are alike");
        for (int points : new int[] {0, 50, 100}) {
            DebateHouse house = new DebateHouse();
            house.school(5, 1);
            score(house, 0, 1, 0, points);
            due.is("mean(0), one alone", house.mean(0), 500);
            score(house, 0, 1, 23, points);
            due.is("mean(0)", house.mean(0), 500);
            due.is("mean(23)", house.mean(23), 500);
            score(house, 0, 1, 5, 70);
            due.is("mean(0), kin is left out", house.mean(0), 500);
            due.is("mean(5)", house.mean(5), -1);
        }
    }

    private static void means() {
        due.by("A MEMBER has the mean (downwards) of those that count for him");
        DebateHouse house = new DebateHouse();
        for (int judge = 0; judge < 6; judge++) {
            score(house, judge, 1 + judge, 0, 50);
            score(house, judge, 1 + judge, 1, judge == 0 ? 51 : 50);
        }
        due.is("mean(0): 5 times 500, and 0", house.mean(0), 416);
        due.is("mean(1): 5 times 500, and 1000", house.mean(1), 583);
        score(house, 5, 6, 2, 50);
        due.is("mean(2) of one JUDGE", house.mean(2), 500);
        house.school(1, 1);
        due.is("mean(1) of those that count", house.mean(1), 500);
        DebateHouse odd = new DebateHouse();
        score(odd, 0, 1, 0, 0);
        score(odd, 0, 1, 1, 1);
        score(odd, 0, 1, 2, 3);
        score(odd, 1, 1, 1, 50);
        due.is("mean(1): 333 and 500", odd.mean(1), 416);
    }

    private static void noAward() {
        due.by("none: no AWARD");
        DebateHouse house = new DebateHouse();
        due.is("award(0)", house.award(0), -1);
        score(house, 0, 0, 3, 100);
        due.is("mean(3), kin alone", house.mean(3), -1);
        due.is("award(0)", house.award(0), -1);
        score(house, 1, 1, 4, 0);
        due.is("award(0)", house.award(0), 4);
        due.is("award(1)", house.award(1), -1);
        for (int k : new int[] {-1, 2, 23, 24, MIN, MAX}) {
            due.is("award(" + k + ")", house.award(k), -1);
        }
        score(house, 1, 1, 5, 100);
        due.is("mean(4): 0 is an AWARD too", house.mean(4), 0);
        due.is("award(1)", house.award(1), 4);
        due.is("award(2)", house.award(2), -1);
    }

    private static void order() {
        due.by("Order: the greatest first, of several the least MEMBER");
        DebateHouse house = new DebateHouse();
        int[][] scores = {{23, 100}, {22, 50}, {0, 50}, {7, 0}, {3, 0}, {12, 100}, {11, 50}};
        for (int[] one : scores) {
            score(house, 0, 1, one[0], one[1]);
        }
        int[] members = {12, 23, 0, 11, 22, 3, 7, -1};
        for (int k = 0; k < members.length; k++) {
            due.is("award(" + k + ")", house.award(k), members[k]);
        }
    }

    private static void everyone() {
        due.by("The k-th AWARD: the MEMBER; NONE");
        DebateHouse house = new DebateHouse();
        for (int m = 0; m < 24; m++) {
            score(house, 3, 7, m, 4 * m);
        }
        for (int k = 0; k < 24; k++) {
            due.is("award(" + k + ")", house.award(k), 23 - k);
        }
        due.is("award(24)", house.award(24), -1);
        due.is("award(-1)", house.award(-1), -1);
    }

    private static void atAnyTime() {
        due.by("A score: true (acts do not matter to it)");
        DebateHouse house = Due.house("motion adjourn rank 1 pass half;", 1);
        score(house, 0, 1, 5, 10);
        Acts.move(house, 0, Acts.ADJOURN, 0, 0);
        Acts.vote(house, 1, 0);
        score(house, 0, 1, 6, 20);
        due.is("mean(6), he never came", house.mean(6), 1000);
        due.is("award(0)", house.award(0), 6);
        due.is("acts", house.state(10), 3);
    }
}

/** Promises 17 (score), 18 (mean) and 19 (award). */
public final class AwardsTest {
    private static final Due due = new Due();

    public static void main(String[] args) {
        refusals();
        scale();
        kin();
        order();
        due.finish();
    }

    private static void refusals() {
        DebateHouse house = new DebateHouse();
        due.is("no such judge", house.score(-1, 0, 0, 0), false);
        due.is("no such judge", house.score(6, 0, 0, 0), false);
        due.is("no such school", house.score(0, -1, 0, 0), false);
        due.is("no such school", house.score(0, 8, 0, 0), false);
        due.is("no such member", house.score(0, 5, -1, 0), false);
        due.is("no such member", house.score(0, 5, 24, 0), false);
        due.is("no such score", house.score(0, 5, 0, -1), false);
        due.is("no such score", house.score(0, 5, 0, 101), false);
        due.is("what was refused tells no school", house.score(0, 6, 0, 100), true);
        due.is("another school", house.score(0, 5, 1, 10), false);
        due.is("nothing happened", house.mean(1), -1);
        due.is("least", house.score(0, 6, 23, 0), true);
        due.is("mean(0)", house.mean(0), 1000);
        due.is("mean(23)", house.mean(23), 0);
        due.is("mean(-1)", house.mean(-1), -1);
        due.is("mean(24)", house.mean(24), -1);
        due.is("award(-1)", house.award(-1), -1);
        due.is("award(2)", house.award(2), -1);
        due.is("no act was needed", house.state(10), 0);
    }

    private static void scale() {
        DebateHouse house = new DebateHouse();
        house.score(0, 1, 0, 40);
        due.is("one alone", house.mean(0), 500);
        house.score(0, 1, 1, 40);
        due.is("all alike", house.mean(1), 500);
        house.score(0, 1, 2, 47);
        house.score(0, 1, 1, 42);
        due.is("downwards", house.mean(1), 285);
        due.is("least", house.mean(0), 0);
        due.is("greatest", house.mean(2), 1000);
        house.score(1, 2, 1, 10);
        house.score(2, 3, 1, 9);
        house.score(2, 3, 5, 8);
        due.is("the mean, downwards", house.mean(1), 595);
        house.score(0, 1, 1, 47);
        due.is("a score anew", house.mean(1), 833);
    }

    private static void kin() {
        DebateHouse house = new DebateHouse();
        house.school(0, 1);
        house.score(0, 1, 0, 100);
        house.score(0, 1, 1, 50);
        house.score(0, 1, 2, 60);
        due.is("kin has no mean", house.mean(0), -1);
        due.is("kin is not of the scale", house.mean(2), 1000);
        house.school(0, 0);
        due.is("kin no more", house.mean(0), 1000);
        due.is("the scale is another one", house.mean(2), 200);
        house.act(0, 0, 0, 0, 0);
        due.is("scores behind an act", house.score(0, 1, 2, 75), true);
        due.is("mean(2)", house.mean(2), 500);
    }

    private static void order() {
        DebateHouse house = new DebateHouse();
        house.school(7, 3);
        int[][] scores = {{9, 10}, {4, 90}, {20, 90}, {7, 100}, {11, 50}, {2, 10}};
        for (int[] one : scores) {
            house.score(5, 3, one[0], one[1]);
        }
        int[] members = {4, 20, 11, 2, 9, -1};
        for (int k = 0; k < members.length; k++) {
            due.is("award(" + k + ")", house.award(k), members[k]);
        }
    }
}

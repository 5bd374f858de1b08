/** Promises 2 (feed), 3 (end), 4 (rules) and 20 (told). */
public final class RulesTest {
    private static final Due due = new Due();

    public static void main(String[] args) {
        feedAndEnd();
        faults();
        numbers();
        defaultsAndChoices();
        everyKindAndWay();
        rulesThatStay();
        noRulesBehindAnAct();
        due.finish();
    }

    private static void feedAndEnd() {
        DebateHouse house = new DebateHouse();
        for (int n = 1; n <= 30; n++) {
            due.is("feed " + n, house.feed(0, 0, 0, 0, 0), 20 * n);
        }
        due.is("feed beyond 600", house.feed(0, 0, 0, 0, 0), -1);
        due.is("told(30)", house.told(30), 600);
        due.is("end(601)", house.end(601), -1);
        due.is("end(-1)", house.end(-1), -1);
        due.is("told(30)", house.told(30), 600);
        due.is("end(600)", house.end(600), 600);
        due.is("end(581)", house.end(581), 581);
        due.is("feed at 581", house.feed(0, 0, 0, 0, 0), -1);
        due.is("end(582)", house.end(582), -1);
        due.is("end(580)", house.end(580), 580);
        due.is("feed at 580", house.feed(0, 0, 0, 0, 0), 600);
        due.is("end(0)", house.end(0), 0);
        due.is("rules of an empty tape", house.rules(), 0);
        due.is("end(1) of an empty tape", house.end(1), -1);
        house.feed(0x74696d65, 0x20373b20, 0x20202020, 0x20202020, 0x20202020);
        due.is("the highest byte first", house.rules(), 0);
        due.is("told(10)", house.told(10), 7);
        house.feed(0x80000000, 0, 0, 0, 0);
        due.is("a byte above 127", house.rules(), 1);
    }

    private static void fault(String text, int want) {
        due.is("rules of '" + text + "'", Due.rules(new DebateHouse(), text), want);
    }

    private static void faults() {
        fault("", 0);
        fault("   ", 0);
        fault(";", 1);
        fault("Time 5;", 1);
        fault("timer 5;", 1);
        fault("tim 5;", 1);
        fault("  time 5", 1 + 4 * 8);
        fault("time 5  ", 1 + 4 * 8);
        fault("time", 1 + 4 * 4);
        fault("time ;", 1 + 4 * 5);
        fault("time five;", 1 + 4 * 5);
        fault("time 5 6;", 1 + 4 * 7);
        fault("time 5;;", 1 + 4 * 7);
        fault("time 5x;", 1 + 4 * 6);
        fault("time 5;\n", 1 + 4 * 7);
        fault("time5;", 0);
        fault("time 5 ;quorum  3;turns schools;yields no;", 0);
        fault("motion", 1 + 4 * 6);
        fault("motion mains rank 1 pass half;", 1 + 4 * 7);
        fault("motion rank 1 pass half;", 1 + 4 * 7);
        fault("motion main 1 pass half;", 1 + 4 * 12);
        fault("motion main rank pass half;", 1 + 4 * 17);
        fault("motion main rank 1 debate second pass half;", 1 + 4 * 26);
        fault("motion main rank 1 second second pass half;", 1 + 4 * 26);
        fault("motion main rank 1 second debate half;", 1 + 4 * 33);
        fault("motion main rank 1 pass main;", 1 + 4 * 24);
        fault("motion main rank 1 pass;", 1 + 4 * 23);
        fault("motion main rank 1 pass half", 1 + 4 * 28);
        fault("turns member;", 1 + 4 * 6);
        fault("turns 1;", 1 + 4 * 6);
        fault("yields yes no;", 1 + 4 * 11);
        fault("time 5;time", 3 + 4 * 7);
        fault("time 5;time 0;", 3 + 4 * 7);
        fault("quorum 1; quorum 1;", 3 + 4 * 10);
        fault("turns members;turns schools;", 3 + 4 * 14);
        fault("yields yes;yields yes;", 3 + 4 * 11);
        fault("motion table rank 1 pass half;motion  table rank 2 pass half;", 3 + 4 * 38);
        fault("time 5;yields maybe;time 6;", 1 + 4 * 14);
    }

    private static void numbers() {
        fault("time 0;", 2 + 4 * 5);
        fault("time 1;", 0);
        fault("time 9999;", 0);
        fault("time 10000;", 2 + 4 * 5);
        fault("time 00001;", 2 + 4 * 5);
        fault("time 0001;", 0);
        fault("time 99999999999999999999;", 2 + 4 * 5);
        fault("quorum 0;", 0);
        fault("quorum 24;", 0);
        fault("quorum 25;", 2 + 4 * 7);
        fault("motion main rank 0 pass half;", 2 + 4 * 17);
        fault("motion main rank 1 pass half;", 0);
        fault("motion main rank 99 pass half;", 0);
        fault("motion main rank 100 pass half;", 2 + 4 * 17);
        fault("motion main rank 100 pass nothing;", 2 + 4 * 17);
    }

    private static void defaultsAndChoices() {
        DebateHouse house = new DebateHouse();
        due.is("rules", Due.rules(house, "time 9;quorum 24;turns schools;yields no;"), 0);
        due.is("told(10)", house.told(10), 9);
        due.is("state(4)", house.state(4), 9);
        due.is("told(11)", house.told(11), 24);
        due.is("told(12)", house.told(12), 1);
        due.is("told(13)", house.told(13), 0);
        due.is("rules", Due.rules(house, "turns members;yields yes;"), 0);
        due.is("told(10)", house.told(10), 60);
        due.is("state(4)", house.state(4), 60);
        due.is("told(11)", house.told(11), 0);
        due.is("told(12)", house.told(12), 0);
        due.is("told(13)", house.told(13), 1);
        for (int what : new int[] {-1, 8, 9, 14, 19, 28, 29, 31, Integer.MAX_VALUE, Integer.MIN_VALUE}) {
            due.is("told(" + what + ")", house.told(what), -1);
        }
    }

    private static void everyKindAndWay() {
        String[] kinds = {"main", "amend", "close", "limit", "table", "recess", "adjourn", "appeal"};
        String[] ways = {"half", "thirds", "quarter", "chair"};
        DebateHouse house = new DebateHouse();
        StringBuilder text = new StringBuilder();
        for (int kind = 7; kind >= 0; kind--) {
            text.append(" motion ").append(kinds[kind]).append(" rank ").append(10 + kind);
            text.append(kind % 2 == 0 ? " second" : "").append(kind % 3 == 0 ? " debate" : "");
            text.append(" pass ").append(ways[kind % 4]).append(';');
        }
        due.is("rules", Due.rules(house, text.toString()), 0);
        for (int kind = 0; kind < 8; kind++) {
            due.is("rank of " + kinds[kind], house.told(kind), 10 + kind);
            due.is("way of " + kinds[kind], house.told(20 + kind), kind % 4);
        }
    }

    private static void rulesThatStay() {
        DebateHouse house = new DebateHouse();
        due.is("rules", Due.rules(house, "motion main rank 4 pass thirds;time 7;"), 0);
        due.is("fault", Due.rules(house, "motion limit rank 5 pass half;time 8;yields no"), 1 + 4 * 46);
        due.is("told(30)", house.told(30), 0);
        due.is("told(0)", house.told(0), 4);
        due.is("told(20)", house.told(20), 1);
        due.is("told(3)", house.told(3), 0);
        due.is("told(10)", house.told(10), 7);
        due.is("told(13)", house.told(13), 1);
        due.is("state(4)", house.state(4), 7);
    }

    private static void noRulesBehindAnAct() {
        DebateHouse house = new DebateHouse();
        due.is("no such act", house.act(10, 0, 0, 0, 0), -1);
        due.is("rules", Due.rules(house, "time 7;"), 0);
        due.is("a refused act", house.act(1, 0, 0, 0, 0), 2);
        due.is("rules behind it", Due.rules(house, "time 8;"), -1);
        due.is("told(30)", house.told(30), 7);
        due.is("told(10)", house.told(10), 7);
    }
}

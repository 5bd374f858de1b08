import java.util.ArrayList;
import java.util.List;
import java.util.Random;

/** Random runs of calls, answered by the class and by Model; and calls with any arguments at all, which must not throw. */
public final class ModelTest {
    private static final Due due = new Due();
    private static final String[] KINDS = {"main", "amend", "close", "limit", "table", "recess", "adjourn", "appeal"};
    private static final String[] WAYS = {"half", "thirds", "quarter", "chair"};
    private static final int[] EDGES = {Integer.MIN_VALUE, Integer.MIN_VALUE + 1, -2, -1, 0, 1, 2, 3, 5, 7, 8, 9, 10, 11, 23,
        24, 25, 40, 99, 100, 101, 299, 300, 310, 311, 400, 440, 600, 999, 1000, 9999, Integer.MAX_VALUE};

    private static final String EVERY_KIND = "motion main rank 1 pass half;motion amend rank 2 pass chair;"
        + "motion close rank 7 pass quarter;motion limit rank 3 pass thirds;motion table rank 6 second pass chair;"
        + "motion recess rank 4 debate pass chair;motion adjourn rank 5 second debate pass half;motion appeal rank 1 pass chair;";

    private final Random random;
    private final Model.Law law = new Model.Law();
    private final int[] schools = new int[24];
    private final DebateHouse house = new DebateHouse();
    private final List<Model.Act> acts = new ArrayList<>();
    private final int members;
    private Model model;

    private ModelTest(long seed) {
        random = new Random(seed);
        members = 2 + random.nextInt(random.nextInt(4) == 0 ? 22 : 4);
    }

    public static void main(String[] args) {
        int runs = args.length > 0 ? Integer.parseInt(args[0]) : 600;
        for (long seed = 0; seed < runs; seed++) {
            new ModelTest(seed).compare(seed);
        }
        for (long seed = 0; seed < 2000; seed++) {
            anyCalls(new Random(seed));
        }
        due.finish();
    }

    private void compare(long seed) {
        due.is("rules in run " + seed, Due.rules(house, rulesText()), 0);
        for (int m = 0; m < 24; m++) {
            schools[m] = random.nextInt(3);
            house.school(m, schools[m]);
        }
        model = new Model(law, schools);
        int length = random.nextInt(10) == 0 ? 300 : 20 + random.nextInt(120);
        for (int i = 0; i < length; i++) {
            Model.Act act = nextAct();
            acts.add(act);
            model.work(act, false);
            String call = "run " + seed + " act " + i + " " + act;
            due.is(call, house.act(act.what(), act.m(), act.kind(), act.a(), act.b()), model.rulings.get(i));
            if (i % 8 == 0) {
                compareState(call);
            }
        }
        compareState("run " + seed + " at its end");
        for (int n = 0; n < 12; n++) {
            compareBeside(seed, random.nextInt(length));
        }
    }

    private String rulesText() {
        StringBuilder text = new StringBuilder();
        boolean lowAppeal = random.nextBoolean();
        for (int kind = 0; kind < 8; kind++) {
            if (random.nextInt(15) == 0) {
                continue;
            }
            law.rank[kind] = kind == 7 && lowAppeal ? 1 : random.nextBoolean() ? 10 * kind + 10 : 1 + random.nextInt(99);
            law.way[kind] = random.nextInt(4);
            law.second[kind] = random.nextInt(4) == 0;
            law.debate[kind] = random.nextInt(4) == 0;
            text.append("motion ").append(KINDS[kind]).append(" rank ").append(law.rank[kind]);
            text.append(law.second[kind] ? " second" : "").append(law.debate[kind] ? " debate" : "");
            text.append(" pass ").append(WAYS[law.way[kind]]).append(';');
        }
        law.time = 1 + random.nextInt(30);
        law.quorum = random.nextInt(3);
        law.bySchools = random.nextBoolean();
        law.yields = random.nextInt(4) != 0;
        text.append("time ").append(law.time).append(";quorum ").append(law.quorum);
        text.append(";turns ").append(law.bySchools ? "schools" : "members");
        text.append(";yields ").append(law.yields ? "yes" : "no").append(';');
        return text.toString();
    }

    private int someMember() {
        return random.nextInt(40) == 0 ? random.nextInt(30) - 3 : random.nextInt(members);
    }

    private Model.Act nextAct() {
        if (model.there.size() < 2 || random.nextInt(15) == 0) {
            return new Model.Act(random.nextInt(5) == 0 ? 1 : 0, someMember(), 0, 0, 0);
        }
        int mover = random.nextInt(3) == 0 || model.floor < 0 ? someMember() : model.floor;
        int choice = random.nextInt(20);
        if (choice < 6) {
            int kind = random.nextInt(30) == 0 ? random.nextInt(12) - 2 : likelyKind();
            return new Model.Act(6, mover, kind, numberFor(kind), random.nextInt(1000));
        }
        if (choice < 12) {
            return decision();
        }
        int what = new int[] {2, 2, 3, 3, 4, 5, 7, 7}[choice - 12];
        return new Model.Act(what, someMember(), 0, 1 + random.nextInt(random.nextInt(9) == 0 ? 10000 : 12), 0);
    }

    private int likelyKind() {
        if (random.nextInt(3) == 0) {
            return 7;
        }
        if (model.paper == null && random.nextInt(3) != 0) {
            return 0;
        }
        int kind = random.nextInt(5) < 3 ? 1 : random.nextInt(8);
        return kind == 6 && random.nextInt(5) != 0 ? 1 : kind;
    }

    private int numberFor(int kind) {
        if (random.nextInt(60) == 0) {
            return random.nextInt(1100) - 20;
        }
        if (kind == 0) {
            return random.nextInt(22);
        }
        if (kind == 1) {
            int number = random.nextInt(Math.max(1, model.everThere.size() + 1));
            return 4 * number + (random.nextInt(3) == 0 ? 0 : random.nextInt(4));
        }
        return random.nextInt(20);
    }

    private Model.Act decision() {
        if (random.nextInt(3) == 0) {
            return new Model.Act(9, 0, 0, random.nextInt(12) == 0 ? 2 : random.nextInt(5) == 0 ? 0 : 1, 0);
        }
        int yes = 0;
        int no = 0;
        for (int m : model.there) {
            int side = random.nextInt(6);
            yes |= side < 4 ? 1 << m : 0;
            no |= side == 4 ? 1 << m : 0;
        }
        if (random.nextInt(30) == 0) {
            yes |= 1 << random.nextInt(32);
        }
        return new Model.Act(8, 0, 0, yes, no);
    }

    private void compareState(String call) {
        for (int what = -1; what < 12; what++) {
            due.is(call + ": state(" + what + ")", house.state(what), model.state(what));
        }
        for (int k = -1; k < 9; k++) {
            for (int what = -1; what < 7; what++) {
                due.is(call + ": pending(" + k + ", " + what + ")", house.pending(k, what), model.pending(k, what));
            }
        }
        for (int k = -1; k < 42; k++) {
            for (int what = -1; what < 3; what++) {
                due.is(call + ": clause(" + k + ", " + what + ")", house.clause(k, what), model.clause(k, what));
            }
        }
        for (int number = -1; number < 180; number++) {
            due.is(call + ": place(" + number + ")", house.place(number), model.place(number));
        }
        for (int m = 0; m < 24; m++) {
            due.is(call + ": speeches(" + m + ")", house.speeches(m), model.speeches[m]);
            due.is(call + ": waits(" + m + ")", house.waits(m), model.waits(m));
        }
        for (int i = 0; i < acts.size(); i++) {
            due.is(call + ": ruling(" + i + ")", house.ruling(i), model.rulings.get(i));
            due.is(call + ": passed(" + i + ")", house.passed(i), model.passed.getOrDefault(i, -1));
            due.is(call + ": overturned(" + i + ")", house.overturned(i), model.overturned.contains(i) ? 1 : 0);
        }
    }

    private void compareBeside(long seed, int other) {
        Model beside = Model.beside(law, schools, acts, other);
        String call = "run " + seed + ": beside(" + other + ", ";
        for (int what = -1; what < 442; what++) {
            due.is(call + what + ")", house.beside(other, what), beside == null ? -1 : beside.besideTell(what));
        }
    }

    private static int any(Random random) {
        return random.nextInt(4) == 0 ? random.nextInt() : EDGES[random.nextInt(EDGES.length)];
    }

    /** Half of the runs have rules and members, so that their acts are done and not refused alone. */
    private static void anyCalls(Random random) {
        DebateHouse house = new DebateHouse();
        int n = 0;
        if (random.nextBoolean()) {
            house = Due.house(EVERY_KIND, 24);
            n = 60;
        }
        for (; n < 512; n++) {
            int[] x = {any(random), any(random), any(random), any(random), any(random)};
            switch (random.nextInt(21)) {
                case 0: house.feed(x[0], x[1], x[2], x[3], x[4]); break;
                case 1: house.end(x[0]); break;
                case 2: house.rules(); break;
                case 3: house.school(x[0], x[1]); break;
                case 4: house.ruling(x[0]); break;
                case 5: house.passed(x[0]); break;
                case 6: house.state(x[0]); break;
                case 7: house.pending(x[0], x[1]); break;
                case 8: house.clause(x[0], x[1]); break;
                case 9: house.place(x[0]); break;
                case 10: house.speeches(x[0]); break;
                case 11: house.waits(x[0]); break;
                case 12: house.overturned(x[0]); break;
                case 13: house.beside(x[0], x[1]); break;
                case 14: house.score(x[0], x[1], x[2], x[3]); break;
                case 15: house.mean(x[0]); break;
                case 16: house.award(x[0]); break;
                case 17: house.told(x[0]); break;
                default: house.act(x[0], x[1], x[2], x[3], x[4]); break;
            }
        }
    }
}

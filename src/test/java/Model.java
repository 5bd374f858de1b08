import java.util.ArrayList;
import java.util.HashMap;
import java.util.HashSet;
import java.util.List;
import java.util.Map;
import java.util.Set;
import java.util.TreeSet;

/** A second working of the document's session, as plain as can be: ModelTest compares the class with it. */
final class Model {
    static final int NONE = -1;

    /** Rules as numbers; ModelTest writes the text from them. */
    static final class Law {
        int[] rank = new int[8];
        int[] way = new int[8];
        boolean[] second = new boolean[8];
        boolean[] debate = new boolean[8];
        int time = 60;
        int quorum;
        boolean bySchools;
        boolean yields = true;
    }

    record Act(int what, int m, int kind, int a, int b) { }

    static final class Motion {
        int kind;
        int mover;
        int a;
        int b;
        int meant;
        boolean hasSecond;
        boolean free;
    }

    /** Who was ahead of a clause as it went is kept as it was then. */
    static final class Clause {
        int number;
        int text;
        List<Clause> aheadAsItWent;
    }

    final Law law;
    final int[] schools;
    final Set<Integer> there = new TreeSet<>();
    final List<Integer> queue = new ArrayList<>();
    final int[] speeches = new int[24];
    final List<Motion> motions = new ArrayList<>();
    final List<Integer> rulings = new ArrayList<>();
    final Map<Integer, Integer> passed = new HashMap<>();
    final Set<Integer> appealsVoted = new HashSet<>();
    final Set<Integer> overturned = new HashSet<>();
    List<Clause> paper;
    List<Clause> everThere = new ArrayList<>();
    int latest = NONE;
    int floor = NONE;
    int left;
    boolean yielded;
    int time;
    int recess;
    int ticks;
    boolean over;

    Model(Law law, int[] schools) {
        this.law = law;
        this.schools = schools;
        time = law.time;
    }

    /** Null if there is nothing beside that act. */
    static Model beside(Law law, int[] schools, List<Act> acts, int other) {
        Model model = new Model(law, schools);
        for (int i = 0; i < acts.size(); i++) {
            if (!model.work(acts.get(i), i == other)) {
                return null;
            }
        }
        return model;
    }

    boolean work(Act act, boolean other) {
        int ruling = rule(act);
        if (other && ruling == 0) {
            ruling = 6;
        } else if (other && ruling == 6 && act.what == 6 && law.rank[act.kind] > 0 && motions.size() < 8) {
            ruling = 0;
        } else if (other && ruling == 6 && act.what == 5 && floor != NONE) {
            ruling = 0;
        } else if (other) {
            return false;
        }
        rulings.add(ruling);
        if (ruling == 6 && (act.what == 5 || act.what == 6)) {
            latest = rulings.size() - 1;
        }
        if (ruling == 0) {
            perform(act);
        }
        return true;
    }

    private int rule(Act act) {
        boolean named = act.what <= 2 || act.what == 5 || act.what == 6 || act.what == 7;
        if (named && (act.m < 0 || act.m > 23)) {
            return 1;
        }
        if (!numbersFit(act)) {
            return 1;
        }
        if (act.what == 0) {
            return there.contains(act.m) ? 2 : 0;
        }
        if (named && !there.contains(act.m)) {
            return 2;
        }
        if (act.what == 1) {
            return 0;
        }
        if (over) {
            return 3;
        }
        if (there.size() < law.quorum) {
            return 4;
        }
        if (recess > 0 && act.what != 4) {
            return 5;
        }
        return outOfOrder(act) ? 6 : 0;
    }

    private boolean numbersFit(Act act) {
        if (act.what == 4) {
            return 1 <= act.a && act.a <= 9999;
        }
        if (act.what == 6) {
            return 0 <= act.kind && act.kind <= 7 && 0 <= act.a && act.a <= 999 && 0 <= act.b && act.b <= 999;
        }
        if (act.what == 9) {
            return act.a == 0 || act.a == 1;
        }
        if (act.what == 8) {
            for (int bit = 0; bit < 32; bit++) {
                boolean yes = (act.a >> bit & 1) == 1;
                boolean no = (act.b >> bit & 1) == 1;
                if (yes && no || (yes || no) && !there.contains(bit)) {
                    return false;
                }
            }
        }
        return true;
    }

    private Motion highest() {
        return motions.isEmpty() ? null : motions.get(motions.size() - 1);
    }

    private boolean outOfOrder(Act act) {
        Motion top = highest();
        switch (act.what) {
            case 2:
                return queue.contains(act.m) || floor == act.m;
            case 3:
                return queue.isEmpty() || floor != NONE;
            case 5:
                return floor == NONE || floor == act.m || yielded || !law.yields;
            case 6:
                return moveOutOfOrder(act, top);
            case 7:
                return top == null || !law.second[top.kind] || top.hasSecond || top.mover == act.m;
            case 8:
            case 9:
                return top == null || law.second[top.kind] && !top.hasSecond || law.debate[top.kind] && !top.free
                    || (law.way[top.kind] == 3) != (act.what == 9);
            default:
                return false;
        }
    }

    private boolean moveOutOfOrder(Act act, Motion top) {
        int kind = act.kind;
        if (law.rank[kind] == 0 || motions.size() == 8) {
            return true;
        }
        if (kind == 7) {
            return motions.stream().anyMatch(one -> one.kind == 7) || latest == NONE || appealsVoted.contains(latest);
        }
        if (top != null && law.rank[kind] <= law.rank[top.kind] || floor != NONE && floor != act.m) {
            return true;
        }
        if (kind == 0) {
            return paper != null || act.a == 0 || act.a > 20;
        }
        if (kind == 1 || kind == 2 || kind == 4) {
            return paper == null || kind == 2 && top == null || kind == 1 && amendOutOfOrder(act.a);
        }
        return (kind == 3 || kind == 5) && act.a == 0;
    }

    private boolean amendOutOfOrder(int a) {
        int number = a / 4;
        if (number >= everThere.size() || !paper.contains(everThere.get(number))) {
            return true;
        }
        if (a % 4 == 3) {
            return paper.indexOf(everThere.get(number)) == paper.size() - 1;
        }
        return a % 4 == 0 && paper.size() == 40;
    }

    private void perform(Act act) {
        switch (act.what) {
            case 0:
                there.add(act.m);
                break;
            case 1:
                there.remove(act.m);
                queue.remove((Integer) act.m);
                if (floor == act.m) {
                    freeFloor();
                }
                break;
            case 2:
                queue.add(act.m);
                break;
            case 3:
                floor = callFrom(queue, speeches);
                left = time;
                yielded = false;
                if (highest() != null) {
                    highest().free = true;
                }
                break;
            case 4:
                pass(act.a);
                break;
            case 5:
                floor = act.m;
                yielded = true;
                break;
            case 6:
                Motion motion = new Motion();
                motion.kind = act.kind;
                motion.mover = act.m;
                motion.a = act.a;
                motion.b = act.b;
                motion.meant = latest;
                motions.add(motion);
                break;
            case 7:
                highest().hasSecond = true;
                break;
            default:
                decide(act);
                break;
        }
    }

    private void freeFloor() {
        floor = NONE;
        left = 0;
        yielded = false;
    }

    private void pass(int n) {
        for (int tick = 0; tick < n; tick++) {
            ticks++;
            if (floor != NONE && --left == 0) {
                freeFloor();
            }
            if (recess > 0) {
                recess--;
            }
        }
    }

    /** Takes the next one out of a queue and counts his speech. */
    private int callFrom(List<Integer> waiting, int[] counted) {
        int best = NONE;
        int fewest = Integer.MAX_VALUE;
        for (int m : waiting) {
            int count = 0;
            for (int other = 0; other < 24; other++) {
                if (law.bySchools ? schools[other] == schools[m] : other == m) {
                    count += counted[other];
                }
            }
            if (count < fewest) {
                best = m;
                fewest = count;
            }
        }
        waiting.remove((Integer) best);
        counted[best]++;
        return best;
    }

    private void decide(Act act) {
        Motion motion = motions.remove(motions.size() - 1);
        int yes = Integer.bitCount(act.a);
        int no = Integer.bitCount(act.b);
        boolean carried;
        switch (law.way[motion.kind]) {
            case 0:
                carried = yes > no;
                break;
            case 1:
                carried = yes >= 2 * no && yes > 0;
                break;
            case 2:
                carried = 3 * yes > no;
                break;
            default:
                carried = act.a == 1;
                break;
        }
        passed.put(rulings.size() - 1, carried ? 1 : 0);
        if (motion.kind == 7) {
            appealsVoted.add(motion.meant);
        }
        if (carried) {
            carryOut(motion);
        }
    }

    private void carryOut(Motion motion) {
        switch (motion.kind) {
            case 0:
                layPaper(motion.a, motion.b);
                break;
            case 1:
                amend(motion.a % 4, motion.a / 4, motion.b);
                break;
            case 2:
                motions.forEach(one -> one.free = true);
                break;
            case 3:
                time = motion.a == 0 ? time : motion.a;
                break;
            case 4:
                paper = null;
                everThere.clear();
                motions.clear();
                break;
            case 5:
                recess = motion.a == 0 ? recess : motion.a;
                break;
            case 6:
                over = true;
                motions.clear();
                break;
            default:
                overturned.add(motion.meant);
                break;
        }
    }

    private Clause newClause(int text) {
        Clause clause = new Clause();
        clause.number = everThere.size();
        clause.text = text;
        everThere.add(clause);
        return clause;
    }

    private void layPaper(int count, int text) {
        if (count < 1 || count > 20) {
            return;
        }
        paper = new ArrayList<>();
        everThere = new ArrayList<>();
        for (int i = 0; i < count; i++) {
            paper.add(newClause(text + i));
        }
    }

    private void amend(int kind, int number, int b) {
        if (paper == null || number >= everThere.size()) {
            return;
        }
        Clause clause = everThere.get(number);
        int at = paper.indexOf(clause);
        if (kind == 0 && paper.size() < 40) {
            if (at < 0) {
                for (Clause one : clause.aheadAsItWent) {
                    at = Math.max(at, paper.indexOf(one));
                }
            }
            paper.add(at + 1, newClause(b));
        } else if (kind == 1 && at >= 0) {
            takeOut(at);
        } else if (kind == 2 && at >= 0) {
            clause.text = b;
        } else if (kind == 3 && at >= 0 && at + 1 < paper.size()) {
            clause.text = Math.max(clause.text, paper.get(at + 1).text);
            takeOut(at + 1);
        }
    }

    private void takeOut(int at) {
        paper.get(at).aheadAsItWent = new ArrayList<>(paper.subList(0, at));
        paper.remove(at);
    }

    int state(int what) {
        int[] all = {there.size(), queue.size(), floor, left, time, motions.size(), recess, over ? 1 : 0,
            paper == null ? NONE : paper.size(), ticks, rulings.size()};
        return what >= 0 && what < all.length ? all[what] : NONE;
    }

    int pending(int k, int what) {
        if (k < 0 || k >= motions.size() || what < 0 || what > 5) {
            return NONE;
        }
        Motion one = motions.get(k);
        int[] all = {one.kind, one.mover, one.a, one.b, !law.second[one.kind] || one.hasSecond ? 1 : 0,
            !law.debate[one.kind] || one.free ? 1 : 0};
        return all[what];
    }

    int clause(int k, int what) {
        if (paper == null || k < 0 || k >= paper.size() || what < 0 || what > 1) {
            return NONE;
        }
        return what == 0 ? paper.get(k).number : paper.get(k).text;
    }

    int place(int number) {
        return paper == null || number < 0 || number >= everThere.size() ? NONE : paper.indexOf(everThere.get(number));
    }

    int waits(int k) {
        List<Integer> waiting = new ArrayList<>(queue);
        int[] counted = speeches.clone();
        for (int called = 0; !waiting.isEmpty(); called++) {
            int next = callFrom(waiting, counted);
            if (called == k) {
                return next;
            }
        }
        return NONE;
    }

    int besideTell(int what) {
        if (what >= 400) {
            return clause(what - 400, 1);
        }
        if (what >= 11) {
            return what - 11 < rulings.size() ? rulings.get(what - 11) : NONE;
        }
        return state(what);
    }
}

/**
 * A parliament of pupils: rules of debate told as a text, a session worked act by act, the same session worked anew
 * beside it with one ruling the other one, and awards by judges. The numbered promises stand in the document.
 */
public final class DebateHouse {
    /** None. */
    public static final int NONE = -1;

    private static final int MEMBERS = 24;
    private static final int SCHOOLS = 8;
    private static final int JUDGES = 6;
    private static final int MOST_POINTS = 100;
    private static final int MOST_BYTES = 600;
    private static final int BYTES_A_FEED = 20;
    private static final int MOST_ACTS = 300;
    private static final int MOST_PENDING = 8;
    private static final int MOST_FIRST_CLAUSES = 20;
    private static final int MOST_CLAUSES = 40;
    /** An act adds one clause at the most, so no paper ever has more than these. */
    private static final int CLAUSES_EVER = MOST_FIRST_CLAUSES + MOST_ACTS;

    private static final int KINDS = 8;
    private static final int MAIN = 0;
    private static final int AMEND = 1;
    private static final int CLOSE = 2;
    private static final int LIMIT = 3;
    private static final int TABLE = 4;
    private static final int RECESS = 5;
    private static final int ADJOURN = 6;
    private static final int APPEAL = 7;

    private static final int WAYS = 4;
    private static final int HALF = 0;
    private static final int THIRDS = 1;
    private static final int QUARTER = 2;
    private static final int CHAIR = 3;

    private static final int COME = 0;
    private static final int LEAVE = 1;
    private static final int ASK = 2;
    private static final int CALL = 3;
    private static final int PASS = 4;
    private static final int YIELD = 5;
    private static final int MOVE = 6;
    private static final int SECOND = 7;
    private static final int VOTE = 8;
    private static final int RULE = 9;

    private static final int LET = 0;
    private static final int NOT_AS_TOLD = 1;
    private static final int NOT_THERE = 2;
    private static final int OVER = 3;
    private static final int NO_QUORUM = 4;
    private static final int IN_RECESS = 5;
    private static final int NOT_IN_ORDER = 6;

    private static final int ADD = 0;
    private static final int STRIKE = 1;
    private static final int NEW_TEXT = 2;
    private static final int JOIN = 3;

    private static final int CANT_BE_SO = 1;
    private static final int WRONG_NUMBER = 2;
    private static final int TOLD_TWICE = 3;

    private static final int BESIDE_RULINGS = 11;
    private static final int BESIDE_TEXTS = 400;

    private final Tape tape;
    private final Rules law;
    private final Rules draft;
    private final Reader reader;
    private final int[] schools;
    private final Log log;
    private final Session live;
    private final Session anew;
    private final Floor trial;
    private final Jury jury;

    public DebateHouse() {
        tape = new Tape();
        law = new Rules();
        draft = new Rules();
        reader = new Reader(tape, draft);
        schools = new int[MEMBERS];
        log = new Log();
        live = new Session(law, schools, log);
        anew = new Session(law, schools, log);
        trial = new Floor(law, schools);
        jury = new Jury(schools);
    }

    public int feed(int a, int b, int c, int d, int e) {
        if (tape.length + BYTES_A_FEED > MOST_BYTES) {
            return NONE;
        }
        tape.append(a);
        tape.append(b);
        tape.append(c);
        tape.append(d);
        tape.append(e);
        return tape.length;
    }

    public int end(int n) {
        if (n < 0 || n > tape.length) {
            return NONE;
        }
        tape.length = n;
        return n;
    }

    public int rules() {
        if (log.count > 0) {
            return NONE;
        }
        int fault = reader.readTape();
        tape.length = 0;
        if (fault == 0) {
            law.copyFrom(draft);
            live.startAnew();
        }
        return fault;
    }

    public boolean school(int member, int school) {
        if (!isMember(member) || !isSchool(school) || log.count > 0) {
            return false;
        }
        schools[member] = school;
        return true;
    }

    public int act(int what, int m, int kind, int a, int b) {
        if (what < COME || what > RULE || log.count >= MOST_ACTS) {
            return NONE;
        }
        int act = log.count;
        log.add(what, m, kind, a, b);
        live.work(act, false);
        return live.rulingOf(act);
    }

    public int ruling(int act) {
        return live.rulingOf(act);
    }

    public int passed(int act) {
        return live.passedOf(act);
    }

    public int state(int what) {
        return live.tell(what);
    }

    public int pending(int k, int what) {
        return live.motions.tell(k, what);
    }

    public int clause(int k, int what) {
        int number = live.paper.numberAt(k);
        if (what == 0) {
            return number;
        }
        return what == 1 ? live.paper.textOf(number) : NONE;
    }

    public int place(int number) {
        return live.paper.placeOf(number);
    }

    public int speeches(int member) {
        return isMember(member) ? live.floor.speeches[member] : NONE;
    }

    public int waits(int k) {
        if (k < 0 || k >= live.floor.waiting) {
            return NONE;
        }
        trial.copyFrom(live.floor);
        for (int called = 0; called <= k; called++) {
            trial.callNext(live.time);
        }
        return trial.holder;
    }

    public int overturned(int act) {
        return live.overturnedOf(act);
    }

    public int beside(int act, int what) {
        if (act < 0 || act >= log.count) {
            return NONE;
        }
        anew.startAnew();
        for (int i = 0; i < log.count; i++) {
            if (!anew.work(i, i == act)) {
                return NONE;
            }
        }
        if (what >= BESIDE_TEXTS) {
            return anew.paper.textOf(anew.paper.numberAt(what - BESIDE_TEXTS));
        }
        if (what >= BESIDE_RULINGS) {
            return anew.rulingOf(what - BESIDE_RULINGS);
        }
        return anew.tell(what);
    }

    public boolean score(int judge, int school, int member, int points) {
        return jury.take(judge, school, member, points);
    }

    public int mean(int member) {
        return jury.meanOf(member);
    }

    public int award(int k) {
        return jury.memberAt(k);
    }

    public int told(int what) {
        if (what >= 0 && what < KINDS) {
            return law.rank[what];
        }
        if (what >= 20 && what < 20 + KINDS) {
            return law.way[what - 20];
        }
        switch (what) {
            case 10:
                return law.time;
            case 11:
                return law.quorum;
            case 12:
                return law.turnsBySchools ? 1 : 0;
            case 13:
                return law.yieldsLet ? 1 : 0;
            case 30:
                return tape.length;
            default:
                return NONE;
        }
    }

    private static boolean isMember(int member) {
        return member >= 0 && member < MEMBERS;
    }

    private static boolean isSchool(int number) {
        return number >= 0 && number < SCHOOLS;
    }

    private static boolean isKind(int kind) {
        return kind >= 0 && kind < KINDS;
    }

    private static boolean isActNumber(int number) {
        return number >= 0 && number < MOST_ACTS;
    }

    /** The bytes that were fed and are not read yet. */
    private static final class Tape {
        final byte[] bytes = new byte[MOST_BYTES];
        int length;

        void append(int number) {
            for (int shift = 24; shift >= 0; shift -= 8) {
                if (length >= 0 && length < MOST_BYTES) {
                    bytes[length] = (byte) (number >>> shift);
                    length++;
                }
            }
        }

        /** NONE behind the end, so that a reader needs no test of its own there. */
        int byteAt(int place) {
            return place >= 0 && place < length && place < MOST_BYTES ? bytes[place] & 255 : NONE;
        }
    }

    /** What a text of rules tells. */
    private static final class Rules {
        final int[] rank = new int[KINDS];
        final int[] way = new int[KINDS];
        final boolean[] needsSecond = new boolean[KINDS];
        final boolean[] needsDebate = new boolean[KINDS];
        int time;
        int quorum;
        boolean turnsBySchools;
        boolean yieldsLet;

        Rules() {
            clear();
        }

        void clear() {
            for (int kind = 0; kind < KINDS; kind++) {
                rank[kind] = 0;
                way[kind] = NONE;
                needsSecond[kind] = false;
                needsDebate[kind] = false;
            }
            time = 60;
            quorum = 0;
            turnsBySchools = false;
            yieldsLet = true;
        }

        void copyFrom(Rules other) {
            for (int kind = 0; kind < KINDS; kind++) {
                rank[kind] = other.rank[kind];
                way[kind] = other.way[kind];
                needsSecond[kind] = other.needsSecond[kind];
                needsDebate[kind] = other.needsDebate[kind];
            }
            time = other.time;
            quorum = other.quorum;
            turnsBySchools = other.turnsBySchools;
            yieldsLet = other.yieldsLet;
        }

        boolean lets(int kind) {
            return isKind(kind) && rank[kind] > 0;
        }

        int rankOf(int kind) {
            return isKind(kind) ? rank[kind] : 0;
        }
    }

    /** Reads the tape into a draft of rules; of all faults it keeps the first, as reading goes on behind one. */
    private static final class Reader {
        private static final int TIME_TOLD = 1;
        private static final int QUORUM_TOLD = 2;
        private static final int TURNS_TOLD = 4;
        private static final int YIELDS_TOLD = 8;

        final Tape tape;
        final Rules draft;
        int at;
        int fault;
        int clausesTold;

        Reader(Tape tape, Rules draft) {
            this.tape = tape;
            this.draft = draft;
        }

        int readTape() {
            at = 0;
            fault = 0;
            clausesTold = 0;
            draft.clear();
            skipBlanks();
            for (int clauses = 0; clauses < MOST_BYTES && fault == 0 && at < tape.length; clauses++) {
                readClause();
                expectSemicolon();
                skipBlanks();
            }
            return fault;
        }

        void readClause() {
            int first = at;
            if (tookWord("motion")) {
                readMotion();
            } else if (tookWord("time")) {
                tellOnce(TIME_TOLD, first);
                draft.time = readNumber(1, 9999);
            } else if (tookWord("quorum")) {
                tellOnce(QUORUM_TOLD, first);
                draft.quorum = readNumber(0, MEMBERS);
            } else if (tookWord("turns")) {
                tellOnce(TURNS_TOLD, first);
                draft.turnsBySchools = readChoice("schools", "members");
            } else if (tookWord("yields")) {
                tellOnce(YIELDS_TOLD, first);
                draft.yieldsLet = readChoice("yes", "no");
            } else {
                fail(CANT_BE_SO, first);
            }
        }

        void readMotion() {
            skipBlanks();
            int first = at;
            int kind = readKind();
            if (!isKind(kind)) {
                fail(CANT_BE_SO, first);
                return;
            }
            if (draft.lets(kind)) {
                fail(TOLD_TWICE, first);
                return;
            }
            expectWord("rank");
            draft.rank[kind] = readNumber(1, 99);
            draft.needsSecond[kind] = tookWord("second");
            draft.needsDebate[kind] = tookWord("debate");
            expectWord("pass");
            draft.way[kind] = readWay();
        }

        int readKind() {
            for (int kind = 0; kind < KINDS; kind++) {
                if (tookWord(kindWord(kind))) {
                    return kind;
                }
            }
            return NONE;
        }

        int readWay() {
            for (int way = 0; way < WAYS; way++) {
                if (tookWord(wayWord(way))) {
                    return way;
                }
            }
            fail(CANT_BE_SO, at);
            return NONE;
        }

        boolean readChoice(String yes, String no) {
            if (tookWord(yes)) {
                return true;
            }
            expectWord(no);
            return false;
        }

        int readNumber(int least, int greatest) {
            skipBlanks();
            int first = at;
            int value = 0;
            while (at < tape.length && isDigit(tape.byteAt(at))) {
                if (at - first < 4) {
                    value = value * 10 + tape.byteAt(at) - '0';
                }
                at++;
            }
            if (at == first) {
                fail(CANT_BE_SO, first);
            } else if (at - first > 4 || value < least || value > greatest) {
                fail(WRONG_NUMBER, first);
            }
            return value;
        }

        void tellOnce(int clauseBit, int first) {
            if ((clausesTold & clauseBit) != 0) {
                fail(TOLD_TWICE, first);
            }
            clausesTold |= clauseBit;
        }

        void expectWord(String word) {
            if (!tookWord(word)) {
                fail(CANT_BE_SO, at);
            }
        }

        void expectSemicolon() {
            skipBlanks();
            if (tape.byteAt(at) == ';') {
                at++;
            } else {
                fail(CANT_BE_SO, at);
            }
        }

        /** A word goes as far as its letters go: one with more letters is another word. */
        boolean tookWord(String word) {
            skipBlanks();
            int length = word.length();
            for (int i = 0; i < length; i++) {
                if (tape.byteAt(at + i) != word.charAt(i)) {
                    return false;
                }
            }
            if (isSmallLetter(tape.byteAt(at + length))) {
                return false;
            }
            at += length;
            return true;
        }

        void skipBlanks() {
            while (at < tape.length && tape.byteAt(at) == ' ') {
                at++;
            }
        }

        void fail(int faultKind, int place) {
            if (fault == 0) {
                fault = faultKind + 4 * place;
            }
        }

        private static boolean isSmallLetter(int b) {
            return b >= 'a' && b <= 'z';
        }

        private static boolean isDigit(int b) {
            return b >= '0' && b <= '9';
        }

        private static String kindWord(int kind) {
            switch (kind) {
                case MAIN:
                    return "main";
                case AMEND:
                    return "amend";
                case CLOSE:
                    return "close";
                case LIMIT:
                    return "limit";
                case TABLE:
                    return "table";
                case RECESS:
                    return "recess";
                case ADJOURN:
                    return "adjourn";
                default:
                    return "appeal";
            }
        }

        private static String wayWord(int way) {
            switch (way) {
                case HALF:
                    return "half";
                case THIRDS:
                    return "thirds";
                case QUARTER:
                    return "quarter";
                default:
                    return "chair";
            }
        }
    }

    /** The acts as they were told: a session is worked, and worked anew, from these. */
    private static final class Log {
        final int[] what = new int[MOST_ACTS];
        final int[] member = new int[MOST_ACTS];
        final int[] kind = new int[MOST_ACTS];
        final int[] a = new int[MOST_ACTS];
        final int[] b = new int[MOST_ACTS];
        int count;

        void add(int theWhat, int theMember, int theKind, int theA, int theB) {
            if (!isActNumber(count)) {
                return;
            }
            what[count] = theWhat;
            member[count] = theMember;
            kind[count] = theKind;
            a[count] = theA;
            b[count] = theB;
            count++;
        }
    }

    /** Who waits, who speaks and how often each was called. */
    private static final class Floor {
        final Rules rules;
        final int[] schoolOf;
        final int[] queue = new int[MEMBERS];
        final int[] speeches = new int[MEMBERS];
        int waiting;
        int holder = NONE;
        int left;
        boolean wasYielded;

        Floor(Rules rules, int[] schoolOf) {
            this.rules = rules;
            this.schoolOf = schoolOf;
        }

        void clear() {
            for (int m = 0; m < MEMBERS; m++) {
                speeches[m] = 0;
            }
            waiting = 0;
            setFree();
        }

        void copyFrom(Floor other) {
            for (int m = 0; m < MEMBERS; m++) {
                queue[m] = other.queue[m];
                speeches[m] = other.speeches[m];
            }
            waiting = other.waiting;
            holder = other.holder;
            left = other.left;
            wasYielded = other.wasYielded;
        }

        void setFree() {
            holder = NONE;
            left = 0;
            wasYielded = false;
        }

        int queuePlaceOf(int member) {
            for (int i = 0; i < waiting && i < MEMBERS; i++) {
                if (queue[i] == member) {
                    return i;
                }
            }
            return NONE;
        }

        boolean mayAsk(int member) {
            return queuePlaceOf(member) == NONE && holder != member;
        }

        boolean mayYieldTo(int member) {
            return rules.yieldsLet && holder != NONE && holder != member && !wasYielded;
        }

        void enqueue(int member) {
            if (waiting >= 0 && waiting < MEMBERS) {
                queue[waiting] = member;
                waiting++;
            }
        }

        void dequeue(int place) {
            if (place < 0 || place >= waiting) {
                return;
            }
            waiting--;
            for (int i = place; i < waiting && i + 1 < MEMBERS; i++) {
                queue[i] = queue[i + 1];
            }
        }

        void drop(int member) {
            dequeue(queuePlaceOf(member));
            if (holder == member) {
                setFree();
            }
        }

        void callNext(int time) {
            int place = nextPlace();
            if (place < 0 || place >= MEMBERS) {
                return;
            }
            int member = queue[place];
            dequeue(place);
            holder = member;
            left = time;
            wasYielded = false;
            if (isMember(member)) {
                speeches[member]++;
            }
        }

        void yieldTo(int member) {
            holder = member;
            wasYielded = true;
        }

        void spend(int ticks) {
            left = Math.max(0, left - ticks);
            if (left == 0) {
                setFree();
            }
        }

        private int nextPlace() {
            int best = NONE;
            int fewest = 0;
            for (int i = 0; i < waiting && i < MEMBERS; i++) {
                int count = countedSpeeches(queue[i]);
                if (best == NONE || count < fewest) {
                    best = i;
                    fewest = count;
                }
            }
            return best;
        }

        private int countedSpeeches(int member) {
            if (!isMember(member)) {
                return 0;
            }
            if (!rules.turnsBySchools) {
                return speeches[member];
            }
            int sum = 0;
            for (int m = 0; m < MEMBERS; m++) {
                if (schoolOf[m] == schoolOf[member]) {
                    sum += speeches[m];
                }
            }
            return sum;
        }
    }

    /** The motions that are pending, the first moved first: the last one is the highest. */
    private static final class Motions {
        final Rules rules;
        final int[] kind = new int[MOST_PENDING];
        final int[] mover = new int[MOST_PENDING];
        final int[] a = new int[MOST_PENDING];
        final int[] b = new int[MOST_PENDING];
        final int[] meant = new int[MOST_PENDING];
        final boolean[] seconded = new boolean[MOST_PENDING];
        final boolean[] debated = new boolean[MOST_PENDING];
        int count;

        Motions(Rules rules) {
            this.rules = rules;
        }

        int top() {
            return count > 0 && count <= MOST_PENDING ? count - 1 : NONE;
        }

        boolean isFull() {
            return count >= MOST_PENDING;
        }

        boolean has(int aKind) {
            for (int i = 0; i < count && i < MOST_PENDING; i++) {
                if (kind[i] == aKind) {
                    return true;
                }
            }
            return false;
        }

        boolean isOutrankedBy(int aKind) {
            int top = top();
            return top == NONE || rules.rankOf(aKind) > rules.rankOf(kind[top]);
        }

        boolean maySecond(int member) {
            int top = top();
            return top != NONE && !seconded[top] && mover[top] != member;
        }

        boolean mayDecide(boolean byChair) {
            int top = top();
            if (top == NONE || !isKind(kind[top])) {
                return false;
            }
            return seconded[top] && debated[top] && (rules.way[kind[top]] == CHAIR) == byChair;
        }

        void push(int aKind, int member, int theA, int theB, int act) {
            if (count < 0 || isFull() || !isKind(aKind)) {
                return;
            }
            kind[count] = aKind;
            mover[count] = member;
            a[count] = theA;
            b[count] = theB;
            meant[count] = act;
            seconded[count] = !rules.needsSecond[aKind];
            debated[count] = !rules.needsDebate[aKind];
            count++;
        }

        void secondTop() {
            int top = top();
            if (top != NONE) {
                seconded[top] = true;
            }
        }

        void debateTop() {
            int top = top();
            if (top != NONE) {
                debated[top] = true;
            }
        }

        void endDebate() {
            for (int i = 0; i < count && i < MOST_PENDING; i++) {
                debated[i] = true;
            }
        }

        int tell(int k, int what) {
            if (k < 0 || k >= count || k >= MOST_PENDING) {
                return NONE;
            }
            switch (what) {
                case 0:
                    return kind[k];
                case 1:
                    return mover[k];
                case 2:
                    return a[k];
                case 3:
                    return b[k];
                case 4:
                    return seconded[k] ? 1 : 0;
                case 5:
                    return debated[k] ? 1 : 0;
                default:
                    return NONE;
            }
        }
    }

    /**
     * The clauses. Those that are gone keep their place in the order, so that an addition to one of them finds the
     * last of those ahead of it.
     */
    private static final class Paper {
        final int[] order = new int[CLAUSES_EVER];
        final int[] text = new int[CLAUSES_EVER];
        /** By number: how many clauses had ever come when it went; 0 while it is there. */
        final int[] cameBeforeItWent = new int[CLAUSES_EVER];
        boolean laid;
        int ever;
        int there;

        void takeAway() {
            laid = false;
            ever = 0;
            there = 0;
        }

        void lay(int clauses, int firstText) {
            if (clauses < 1 || clauses > MOST_FIRST_CLAUSES) {
                return;
            }
            takeAway();
            laid = true;
            for (int i = 0; i < clauses && i < CLAUSES_EVER; i++) {
                insert(i, firstText + i);
            }
        }

        boolean wasEver(int number) {
            return number >= 0 && number < ever && number < CLAUSES_EVER;
        }

        boolean isThere(int number) {
            return number >= 0 && number < ever && number < CLAUSES_EVER && cameBeforeItWent[number] == 0;
        }

        boolean mayAmend(int a) {
            int number = a / 4;
            if (!isThere(number)) {
                return false;
            }
            switch (a % 4) {
                case ADD:
                    return there < MOST_CLAUSES;
                case JOIN:
                    return behind(number) != NONE;
                default:
                    return true;
            }
        }

        void amend(int a, int b) {
            int number = a / 4;
            int amendment = a % 4;
            if (amendment == ADD) {
                addBehind(number, b);
                return;
            }
            if (!isThere(number)) {
                return;
            }
            if (amendment == STRIKE) {
                remove(number);
            } else if (amendment == NEW_TEXT) {
                text[number] = b;
            } else if (amendment == JOIN) {
                int next = behind(number);
                text[number] = Math.max(text[number], textOf(next));
                remove(next);
            }
        }

        int numberAt(int k) {
            int place = 0;
            for (int i = 0; i < ever && i < CLAUSES_EVER; i++) {
                if (isThere(order[i])) {
                    if (place == k) {
                        return order[i];
                    }
                    place++;
                }
            }
            return NONE;
        }

        int placeOf(int number) {
            int place = 0;
            for (int i = 0; i < ever && i < CLAUSES_EVER; i++) {
                if (isThere(order[i])) {
                    if (order[i] == number) {
                        return place;
                    }
                    place++;
                }
            }
            return NONE;
        }

        int textOf(int number) {
            return isThere(number) ? text[number] : NONE;
        }

        private void remove(int number) {
            if (isThere(number)) {
                cameBeforeItWent[number] = ever;
                there--;
            }
        }

        private int behind(int number) {
            boolean met = false;
            for (int i = 0; i < ever && i < CLAUSES_EVER; i++) {
                if (met && isThere(order[i])) {
                    return order[i];
                }
                met = met || order[i] == number;
            }
            return NONE;
        }

        private void addBehind(int number, int newText) {
            if (!wasEver(number) || there >= MOST_CLAUSES) {
                return;
            }
            // Clauses that came since it went were not ahead of it then, wherever they stand now.
            int bound = isThere(number) ? ever : cameBeforeItWent[number];
            int spot = 0;
            for (int i = 0; i < ever && i < CLAUSES_EVER; i++) {
                if (isThere(order[i]) && order[i] < bound) {
                    spot = i + 1;
                }
                if (order[i] == number) {
                    break;
                }
            }
            insert(spot, newText);
        }

        private void insert(int spot, int newText) {
            if (ever < 0 || ever >= CLAUSES_EVER || spot < 0 || spot > ever) {
                return;
            }
            for (int i = ever; i > spot; i--) {
                order[i] = order[i - 1];
            }
            order[spot] = ever;
            text[ever] = newText;
            cameBeforeItWent[ever] = 0;
            ever++;
            there++;
        }
    }

    /** The session as far as it is worked: each act is ruled and, if it is let, done. */
    private static final class Session {
        final Rules rules;
        final Log log;
        final Floor floor;
        final Motions motions;
        final Paper paper;
        final int[] rulings = new int[MOST_ACTS];
        final int[] passes = new int[MOST_ACTS];
        final boolean[] overturns = new boolean[MOST_ACTS];
        final boolean[] appealDecided = new boolean[MOST_ACTS];
        int worked;
        /** What an appeal means: of this working of the acts, as each working rules for itself. */
        int latestRefused;
        int there;
        int time;
        int recess;
        int ticks;
        boolean over;

        Session(Rules rules, int[] schoolOf, Log log) {
            this.rules = rules;
            this.log = log;
            floor = new Floor(rules, schoolOf);
            motions = new Motions(rules);
            paper = new Paper();
            startAnew();
        }

        void startAnew() {
            floor.clear();
            motions.count = 0;
            paper.takeAway();
            worked = 0;
            latestRefused = NONE;
            there = 0;
            time = rules.time;
            recess = 0;
            ticks = 0;
            over = false;
        }

        /** False, and nothing is done, if the other RULING is asked for and there is none. */
        boolean work(int i, boolean other) {
            if (!isActNumber(i)) {
                return false;
            }
            int ruling = refusalAtLarge(i);
            if (ruling == LET && !isInOrder(i)) {
                ruling = NOT_IN_ORDER;
            }
            if (other) {
                if (!hasOther(i, ruling)) {
                    return false;
                }
                ruling = ruling == LET ? NOT_IN_ORDER : LET;
            }
            rulings[i] = ruling;
            passes[i] = NONE;
            overturns[i] = false;
            appealDecided[i] = false;
            worked = i + 1;
            if (ruling == LET) {
                perform(i);
            } else if (ruling == NOT_IN_ORDER && (log.what[i] == MOVE || log.what[i] == YIELD)) {
                latestRefused = i;
            }
            return true;
        }

        int rulingOf(int i) {
            return isWorked(i) ? rulings[i] : NONE;
        }

        int passedOf(int i) {
            return isWorked(i) ? passes[i] : NONE;
        }

        int overturnedOf(int i) {
            if (!isWorked(i)) {
                return NONE;
            }
            return overturns[i] ? 1 : 0;
        }

        int tell(int what) {
            switch (what) {
                case 0:
                    return Integer.bitCount(there);
                case 1:
                    return floor.waiting;
                case 2:
                    return floor.holder;
                case 3:
                    return floor.left;
                case 4:
                    return time;
                case 5:
                    return motions.count;
                case 6:
                    return recess;
                case 7:
                    return over ? 1 : 0;
                case 8:
                    return paper.laid ? paper.there : NONE;
                case 9:
                    return ticks;
                case 10:
                    return worked;
                default:
                    return NONE;
            }
        }

        private boolean isWorked(int i) {
            return isActNumber(i) && i < worked;
        }

        private boolean isThere(int member) {
            return isMember(member) && (there >>> member & 1) == 1;
        }

        /** The RULING as to all that holds for every kind of act; what is in order depends on the act. */
        private int refusalAtLarge(int i) {
            int what = log.what[i];
            if (!numbersAreAsTold(i)) {
                return NOT_AS_TOLD;
            }
            if (isOfMember(what) && isThere(log.member[i]) == (what == COME)) {
                return NOT_THERE;
            }
            if (what == COME || what == LEAVE) {
                return LET;
            }
            if (over) {
                return OVER;
            }
            if (Integer.bitCount(there) < rules.quorum) {
                return NO_QUORUM;
            }
            return recess > 0 && what != PASS ? IN_RECESS : LET;
        }

        private static boolean isOfMember(int what) {
            return what != CALL && what != PASS && what != VOTE && what != RULE;
        }

        private boolean numbersAreAsTold(int i) {
            int a = log.a[i];
            int b = log.b[i];
            switch (log.what[i]) {
                case CALL:
                    return true;
                case PASS:
                    return a >= 1 && a <= 9999;
                case MOVE:
                    return isMember(log.member[i]) && isKind(log.kind[i]) && a >= 0 && a <= 999 && b >= 0 && b <= 999;
                case VOTE:
                    return (a & b) == 0 && ((a | b) & ~there) == 0;
                case RULE:
                    return a == 0 || a == 1;
                default:
                    return isMember(log.member[i]);
            }
        }

        private boolean isInOrder(int i) {
            int member = log.member[i];
            switch (log.what[i]) {
                case ASK:
                    return floor.mayAsk(member);
                case CALL:
                    return floor.waiting > 0 && floor.holder == NONE;
                case YIELD:
                    return floor.mayYieldTo(member);
                case MOVE:
                    return mayMove(i);
                case SECOND:
                    return motions.maySecond(member);
                case VOTE:
                    return motions.mayDecide(false);
                case RULE:
                    return motions.mayDecide(true);
                default:
                    return true;
            }
        }

        private boolean mayMove(int i) {
            int kind = log.kind[i];
            if (!rules.lets(kind) || motions.isFull()) {
                return false;
            }
            if (kind == APPEAL) {
                return !motions.has(APPEAL) && mayAppeal();
            }
            if (floor.holder != NONE && floor.holder != log.member[i]) {
                return false;
            }
            return motions.isOutrankedBy(kind) && mayMoveKind(kind, log.a[i]);
        }

        private boolean mayMoveKind(int kind, int a) {
            switch (kind) {
                case MAIN:
                    return !paper.laid && a >= 1 && a <= MOST_FIRST_CLAUSES;
                case AMEND:
                    return paper.laid && paper.mayAmend(a);
                case CLOSE:
                    return paper.laid && motions.count > 0;
                case TABLE:
                    return paper.laid;
                case LIMIT:
                case RECESS:
                    return a > 0;
                default:
                    return true;
            }
        }

        private boolean mayAppeal() {
            return isWorked(latestRefused) && !appealDecided[latestRefused];
        }

        private boolean hasOther(int i, int ruling) {
            if (ruling == LET) {
                return true;
            }
            if (ruling != NOT_IN_ORDER) {
                return false;
            }
            if (log.what[i] == MOVE) {
                return rules.lets(log.kind[i]) && !motions.isFull();
            }
            return log.what[i] == YIELD && floor.holder != NONE;
        }

        private void perform(int i) {
            int member = log.member[i];
            switch (log.what[i]) {
                case COME:
                    there |= 1 << member;
                    break;
                case LEAVE:
                    there &= ~(1 << member);
                    floor.drop(member);
                    break;
                case ASK:
                    floor.enqueue(member);
                    break;
                case CALL:
                    floor.callNext(time);
                    motions.debateTop();
                    break;
                case PASS:
                    letTicksGo(log.a[i]);
                    break;
                case YIELD:
                    floor.yieldTo(member);
                    break;
                case MOVE:
                    motions.push(log.kind[i], member, log.a[i], log.b[i], latestRefused);
                    break;
                case SECOND:
                    motions.secondTop();
                    break;
                default:
                    decide(i);
                    break;
            }
        }

        private void letTicksGo(int n) {
            ticks += n;
            floor.spend(n);
            recess = Math.max(0, recess - n);
        }

        private void decide(int i) {
            int top = motions.top();
            if (top == NONE || !isActNumber(i)) {
                return;
            }
            int kind = motions.kind[top];
            boolean carried = log.what[i] == RULE ? log.a[i] == 1 : isCarried(kind, log.a[i], log.b[i]);
            motions.count = top;
            passes[i] = carried ? 1 : 0;
            if (kind == APPEAL) {
                settleAppeal(motions.meant[top], carried);
            } else if (carried) {
                carryOut(kind, motions.a[top], motions.b[top]);
            }
        }

        private boolean isCarried(int kind, int yesSet, int noSet) {
            int yes = Integer.bitCount(yesSet);
            int all = yes + Integer.bitCount(noSet);
            switch (isKind(kind) ? rules.way[kind] : NONE) {
                case HALF:
                    return 2 * yes > all;
                case THIRDS:
                    return 3 * yes >= 2 * all && yes > 0;
                case QUARTER:
                    return 4 * yes > all;
                default:
                    return false;
            }
        }

        private void settleAppeal(int act, boolean carried) {
            if (isWorked(act)) {
                appealDecided[act] = true;
                overturns[act] = overturns[act] || carried;
            }
        }

        private void carryOut(int kind, int a, int b) {
            switch (kind) {
                case MAIN:
                    paper.lay(a, b);
                    break;
                case AMEND:
                    paper.amend(a, b);
                    break;
                case CLOSE:
                    motions.endDebate();
                    break;
                case LIMIT:
                    time = a > 0 ? a : time;
                    break;
                case TABLE:
                    paper.takeAway();
                    motions.count = 0;
                    break;
                case RECESS:
                    recess = a;
                    break;
                case ADJOURN:
                    over = true;
                    motions.count = 0;
                    break;
                default:
                    break;
            }
        }
    }

    /** Judges and their scores. */
    private static final class Jury {
        final int[] schoolOf;
        final int[] judgeSchool = new int[JUDGES];
        final int[][] points = new int[JUDGES][MEMBERS];
        final int[] means = new int[MEMBERS];

        Jury(int[] schoolOf) {
            this.schoolOf = schoolOf;
            for (int judge = 0; judge < JUDGES; judge++) {
                judgeSchool[judge] = NONE;
                for (int m = 0; m < MEMBERS; m++) {
                    points[judge][m] = NONE;
                }
            }
        }

        boolean take(int judge, int school, int member, int given) {
            if (judge < 0 || judge >= JUDGES || !isSchool(school) || !isMember(member)) {
                return false;
            }
            if (given < 0 || given > MOST_POINTS) {
                return false;
            }
            if (judgeSchool[judge] != NONE && judgeSchool[judge] != school) {
                return false;
            }
            judgeSchool[judge] = school;
            points[judge][member] = given;
            return true;
        }

        int meanOf(int member) {
            int sum = 0;
            int count = 0;
            for (int judge = 0; judge < JUDGES; judge++) {
                if (counts(judge, member)) {
                    sum += scaled(judge, member);
                    count++;
                }
            }
            return count > 0 ? sum / count : NONE;
        }

        int memberAt(int k) {
            for (int m = 0; m < MEMBERS; m++) {
                means[m] = meanOf(m);
            }
            for (int m = 0; m < MEMBERS; m++) {
                if (means[m] != NONE && countAheadOf(m) == k) {
                    return m;
                }
            }
            return NONE;
        }

        private int countAheadOf(int member) {
            int ahead = 0;
            for (int m = 0; m < MEMBERS; m++) {
                if (means[m] > means[member] || means[m] == means[member] && m < member) {
                    ahead++;
                }
            }
            return ahead;
        }

        private boolean counts(int judge, int member) {
            return judge >= 0 && judge < JUDGES && isMember(member)
                && points[judge][member] != NONE && judgeSchool[judge] != schoolOf[member];
        }

        private int scaled(int judge, int member) {
            int least = MOST_POINTS;
            int greatest = 0;
            for (int m = 0; m < MEMBERS; m++) {
                if (counts(judge, m)) {
                    least = Math.min(least, points[judge][m]);
                    greatest = Math.max(greatest, points[judge][m]);
                }
            }
            return greatest > least ? (points[judge][member] - least) * 1000 / (greatest - least) : 500;
        }
    }
}

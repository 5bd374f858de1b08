/** The boundary cases of Terms I and of promises 2 (feed), 3 (end), 4 (rules) and 20 (told), a sentence at a time. */
public final class EdgesRulesTest {
    private static final Due due = new Due();
    private static final String[] KINDS = {"main", "amend", "close", "limit", "table", "recess", "adjourn", "appeal"};
    private static final String[] WAYS = {"half", "thirds", "quarter", "chair"};
    private static final int MIN = Integer.MIN_VALUE;
    private static final int MAX = Integer.MAX_VALUE;

    public static void main(String[] args) {
        sixHundredBytes();
        bytesOfEachNumber();
        endings();
        aheadOfAllActs();
        words();
        numbers();
        blanks();
        semicolons();
        motionCutOff();
        motionWords();
        seconds();
        ranks();
        times();
        quorums();
        turns();
        yields();
        onceAtMost();
        firstFault();
        withoutClauses();
        theyStay();
        told();
        due.finish();
    }

    private static void fault(String text, int want) {
        due.is("rules of '" + text + "'", Due.rules(new DebateHouse(), text), want);
    }

    private static void cantBeSo(String text, int place) {
        fault(text, 1 + 4 * place);
    }

    private static void notAsTold(String text, int place) {
        fault(text, 2 + 4 * place);
    }

    private static void wasTold(String text, int place) {
        fault(text, 3 + 4 * place);
    }

    private static void sixHundredBytes() {
        due.by("NONE, and none comes, if it would have more than 600");
        for (int kept : new int[] {579, 580, 581, 599, 600}) {
            DebateHouse house = new DebateHouse();
            for (int n = 1; n <= 30; n++) {
                due.is("feed " + n, house.feed(0x20202020, 0x20202020, 0x20202020, 0x20202020, 0x20202020), 20 * n);
            }
            due.is("end(" + kept + ")", house.end(kept), kept);
            due.is("feed at " + kept, house.feed(0x20202020, 0x20202020, 0x20202020, 0x20202020, 0x20202020),
                kept > 580 ? -1 : kept + 20);
            due.is("told(30)", house.told(30), kept > 580 ? kept : kept + 20);
            due.is("rules", house.rules(), 0);
        }
        due.by("a text of at most 600 bytes");
        DebateHouse house = new DebateHouse();
        due.is("a clause at the end of 600", Due.rules(house, " ".repeat(593) + "time 7;"), 0);
        due.is("told(10)", house.told(10), 7);
        cantBeSo(" ".repeat(599) + "x", 599);
        cantBeSo(" ".repeat(594) + "time 7", 600);
        cantBeSo(" ".repeat(596) + "time", 600);
        notAsTold(" ".repeat(593) + "time 0;", 598);
        fault(";".repeat(600), 1);
        fault("a".repeat(600), 1);
        notAsTold("time " + "1".repeat(595), 5);
    }

    private static void bytesOfEachNumber() {
        due.by("Twenty bytes come behind the TAPE, of each number the highest first");
        DebateHouse house = new DebateHouse();
        due.is("feed", house.feed(0x74696d65, 0x20333231, 0x343b7175, 0x6f72756d, 0x2032343b), 20);
        due.is("rules of 'time 3214;quorum 24;'", house.rules(), 0);
        due.is("told(10)", house.told(10), 3214);
        due.is("told(11)", house.told(11), 24);
        due.is("feed of bytes above 127", house.feed(-1, -1, -1, -1, -1), 20);
        due.is("rules", house.rules(), 1);
        due.is("feed", house.feed(0x202020ff, 0, 0, 0, 0), 20);
        due.is("rules", house.rules(), 1 + 4 * 3);
        due.is("feed", house.feed(0x20202020, 0x20202020, 0x20202020, 0x20202020, 0x202020f4), 20);
        due.is("feed", house.feed(0x69000000, 0, 0, 0, 0), 40);
        due.is("rules", house.rules(), 1 + 4 * 19);
    }

    private static void endings() {
        due.by("NONE, and nothing happens, if it has not so many, or n is below 0");
        DebateHouse house = new DebateHouse();
        due.is("end(0) of none", house.end(0), 0);
        for (int n : new int[] {1, 20, 600, MAX, -1, MIN}) {
            due.is("end(" + n + ") of none", house.end(n), -1);
        }
        Due.feed(house, "time 7;quorum 3;");
        for (int n : new int[] {17, 20, 600, MAX, -1, -16, MIN}) {
            due.is("end(" + n + ") of 16", house.end(n), -1);
            due.is("told(30)", house.told(30), 16);
        }
        due.is("end(16) of 16", house.end(16), 16);
        due.by("The TAPE has its first n bytes alone");
        due.is("end(7)", house.end(7), 7);
        due.is("end(8): the eighth is gone", house.end(8), -1);
        due.is("feed 'yields no;' and blanks",
            house.feed(0x7969656c, 0x6473206e, 0x6f3b2020, 0x20202020, 0x20202020), 27);
        due.is("rules", house.rules(), 0);
        due.is("told(10)", house.told(10), 7);
        due.is("told(11)", house.told(11), 0);
        due.is("told(13)", house.told(13), 0);
        due.by("The TAPE has its first n bytes alone: those behind them are not of the text");
        String whole = "time 77;quorum 12;";
        int[][] cuts = {{4, 1 + 4 * 4}, {6, 1 + 4 * 6}, {7, 1 + 4 * 7}, {8, 0}, {12, 1 + 4 * 8}, {14, 1 + 4 * 14},
            {16, 1 + 4 * 16}};
        for (int[] cut : cuts) {
            Due.feed(house, whole);
            due.is("end(" + cut[0] + ")", house.end(cut[0]), cut[0]);
            due.is("rules of '" + whole.substring(0, cut[0]) + "'", house.rules(), cut[1]);
        }
        due.is("told(10)", house.told(10), 77);
        due.by("The TAPE, which is empty then");
        due.is("told(30)", house.told(30), 0);
        due.is("end(1)", house.end(1), -1);
    }

    private static void aheadOfAllActs() {
        due.by("NONE, and nothing happens, if there was an act");
        DebateHouse house = new DebateHouse();
        due.is("no act", house.act(-1, 0, 0, 0, 0), -1);
        due.is("no act", house.act(10, 0, 0, 0, 0), -1);
        due.is("rules ahead of all acts", Due.rules(house, "time 7;"), 0);
        due.is("rules again", Due.rules(house, "time 8;"), 0);
        due.is("an act that is refused", Acts.come(house, 24), 1);
        Due.feed(house, "time 9;");
        due.is("rules behind it", house.rules(), -1);
        due.is("the TAPE is as it was", house.told(30), 7);
        due.is("told(10)", house.told(10), 8);
        Due.feed(house, "");
        due.is("rules of an empty TAPE", house.rules(), -1);
        due.is("told(10)", house.told(10), 8);
        due.is("TIME", house.state(4), 8);
        due.is("feed behind an act", house.feed(0, 0, 0, 0, 0), 20);
    }

    private static void words() {
        due.by("WORDS: small letters, as far as they go");
        for (String text : new String[] {"times 5;", "timea 5;", "timez 5;", "tim 5;", "t 5;", "TIME 5;", "Time 5;",
                "tiMe 5;", "timE 5;", "xtime 5;", "timetime 5;", "quorums 5;", "motions main rank 1 pass half;",
                "turn members;", "yield yes;", "rank 5;", "main 5;", "members;", "5;", "time`x", "`time 5;", "{"}) {
            cantBeSo(text, text.equals("time`x") ? 4 : 0);
        }
        cantBeSo("time` 5;", 4);
        cantBeSo("time{ 5;", 4);
        cantBeSo("timeE 5;", 4);
        due.by("a word that can't stand there: its first byte");
        cantBeSo("motion mainx rank 1 pass half;", 7);
        cantBeSo("motion motion rank 1 pass half;", 7);
        cantBeSo("motion   mai rank 1 pass half;", 9);
        cantBeSo("motion main ranks 1 pass half;", 12);
        cantBeSo("motion main rank 1 passhalf;", 19);
        cantBeSo("motion main rank 1 pass halfs;", 24);
        cantBeSo("motion main rank 1 pass half half;", 29);
        cantBeSo("turns yes;", 6);
        cantBeSo("yields members;", 7);
        cantBeSo("yields y;", 7);
        cantBeSo("yields nope;", 7);
        cantBeSo("turns schoolsx;", 6);
    }

    private static void numbers() {
        due.by("NUMBERS: digits, 1 to 4, as far as they go");
        fault("time 1;", 0);
        fault("time 0001;", 0);
        notAsTold("time 00001;", 5);
        notAsTold("time 12345;", 5);
        notAsTold("time 0;", 5);
        notAsTold("time 0000;", 5);
        notAsTold("time 4294967297;", 5);
        notAsTold("time 18446744073709551617;", 5);
        fault("quorum 0000;", 0);
        notAsTold("quorum 00000;", 7);
        notAsTold("motion main rank 00001 pass half;", 17);
        fault("motion main rank 0001 pass half;", 0);
        cantBeSo("time /;", 5);
        cantBeSo("time :;", 5);
        cantBeSo("time 5/;", 6);
        cantBeSo("time 5:;", 6);
        cantBeSo("time -5;", 5);
        cantBeSo("time +5;", 5);
        cantBeSo("time 1 2;", 7);
        cantBeSo("time 5.;", 6);
        cantBeSo("time five;", 5);
        cantBeSo("time ;", 5);
        cantBeSo("motion main rank second pass half;", 17);
        cantBeSo("quorum members;", 7);
    }

    private static void blanks() {
        due.by("blanks (32) between");
        fault("  time  5  ;  quorum  3  ;  ", 0);
        fault("time 5;quorum 3;turns schools;yields no;", 0);
        fault("motion   main   rank   5   second   debate   pass   half   ;", 0);
        fault("motion main rank5second debate pass half;", 0);
        for (char other : new char[] {0, 9, 10, 13, 31, 33, 127, 128, 160, 255}) {
            cantBeSo(other + "time 5;", 0);
            cantBeSo("time" + other + "5;", 4);
            cantBeSo("time 5" + other + ";", 6);
            cantBeSo("time 5;" + other, 7);
            cantBeSo("ti" + other + "me 5;", 0);
        }
        cantBeSo("ti me 5;", 0);
        cantBeSo("time 5 5;", 7);
    }

    private static void semicolons() {
        due.by("CLAUSES, ; behind each");
        cantBeSo(";", 0);
        cantBeSo(" ;", 1);
        cantBeSo("time 5;;", 7);
        cantBeSo("time 5 quorum 3;", 7);
        cantBeSo("turns members yields yes;", 14);
        cantBeSo("time 5:", 6);
        due.by("the end: behind the last byte");
        cantBeSo("time 5", 6);
        cantBeSo("time 5   ", 9);
        cantBeSo("time 5;quorum 3", 15);
        cantBeSo("time", 4);
        cantBeSo("time  ", 6);
        cantBeSo("quorum", 6);
        cantBeSo("turns ", 6);
        cantBeSo("turns members", 13);
        cantBeSo("yields", 6);
        cantBeSo("yields yes ", 11);
    }

    /** Each beginning of the clause ends too early: behind its last byte, or in a word that is another one then. */
    private static void motionCutOff() {
        due.by("the end: behind the last byte");
        String whole = " motion amend rank 47 second debate pass quarter ;";
        fault(whole, 0);
        for (int n = 2; n < whole.length(); n++) {
            boolean letters = Character.isLetter(whole.charAt(n - 1)) && Character.isLetter(whole.charAt(n));
            cantBeSo(whole.substring(0, n), letters ? whole.lastIndexOf(' ', n - 1) + 1 : n);
        }
        fault(whole.substring(0, 1), 0);
    }

    private static void motionWords() {
        due.by("motion KIND rank n [second] [debate] pass WAY");
        fault("motion main rank 5 pass half;", 0);
        fault("motion main rank 5 second pass half;", 0);
        fault("motion main rank 5 debate pass half;", 0);
        fault("motion main rank 5 second debate pass half;", 0);
        cantBeSo("motion main rank 5 debate second pass half;", 26);
        cantBeSo("motion main rank 5 second second pass half;", 26);
        cantBeSo("motion main rank 5 debate debate pass half;", 26);
        cantBeSo("motion main rank 5 half;", 19);
        cantBeSo("motion main rank 5;", 18);
        cantBeSo("motion main 5 pass half;", 12);
        cantBeSo("motion main pass half;", 12);
        cantBeSo("motion 0 rank 5 pass half;", 7);
        cantBeSo("motion;", 6);
        cantBeSo("motion main rank 5 pass ;", 24);
        cantBeSo("motion main rank 5 pass 0;", 24);
        cantBeSo("motion main rank 5 pass none;", 24);
        cantBeSo("motion main rank 5 pass half second;", 29);
        for (int kind = 0; kind < 8; kind++) {
            for (int way = 0; way < 4; way++) {
                DebateHouse house = new DebateHouse();
                Due.rules(house, "motion " + KINDS[kind] + " rank 42 pass " + WAYS[way] + ";");
                for (int other = 0; other < 8; other++) {
                    due.is("rank of " + KINDS[other], house.told(other), other == kind ? 42 : 0);
                    due.is("WAY of " + KINDS[other], house.told(20 + other), other == kind ? way : -1);
                }
            }
        }
    }

    private static void seconds() {
        due.by("[second] [debate]");
        String[] told = {"", " second", " debate", " second debate"};
        for (int n = 0; n < told.length; n++) {
            DebateHouse house = Due.house("motion limit rank 5" + told[n] + " pass half;", 1);
            due.is("move", Acts.move(house, 0, Acts.LIMIT, 1, 0), 0);
            due.is("pending(0, 4) of '" + told[n] + "'", house.pending(0, 4), n % 2 == 1 ? 0 : 1);
            due.is("pending(0, 5) of '" + told[n] + "'", house.pending(0, 5), n >= 2 ? 0 : 1);
        }
    }

    private static void ranks() {
        due.by("a KIND of motion may be moved: n 1 to 99");
        for (String kind : KINDS) {
            String ahead = "motion " + kind + " rank ";
            notAsTold(ahead + "0 pass half;", ahead.length());
            fault(ahead + "1 pass half;", 0);
            fault(ahead + "99 pass half;", 0);
            notAsTold(ahead + "100 pass half;", ahead.length());
            notAsTold(ahead + "9999 pass half;", ahead.length());
        }
    }

    private static void times() {
        due.by("time n (1 to 9999 ticks; 60 without)");
        notAsTold("time 0;", 5);
        notAsTold("time 10000;", 5);
        for (int n : new int[] {1, 60, 9999}) {
            DebateHouse house = new DebateHouse();
            due.is("rules", Due.rules(house, "time " + n + ";"), 0);
            due.is("told(10)", house.told(10), n);
            due.is("TIME", house.state(4), n);
            due.is("rules", Due.rules(house, "quorum 1;"), 0);
            due.is("told(10)", house.told(10), 60);
            due.is("TIME", house.state(4), 60);
        }
    }

    private static void quorums() {
        due.by("quorum n (0 to 24; 0 without)");
        notAsTold("quorum 25;", 7);
        notAsTold("quorum 9999;", 7);
        for (int n : new int[] {0, 1, 24}) {
            DebateHouse house = new DebateHouse();
            due.is("rules", Due.rules(house, "quorum " + n + ";"), 0);
            due.is("told(11)", house.told(11), n);
            due.is("rules", Due.rules(house, "time 1;"), 0);
            due.is("told(11)", house.told(11), 0);
        }
    }

    private static void turns() {
        due.by("turns members | schools (members without)");
        DebateHouse house = new DebateHouse();
        due.is("told(12)", house.told(12), 0);
        Due.rules(house, "turns schools;");
        due.is("told(12) of schools", house.told(12), 1);
        Due.rules(house, "turns members;");
        due.is("told(12) of members", house.told(12), 0);
        Due.rules(house, "turns schools;");
        Due.rules(house, "time 1;");
        due.is("told(12) without", house.told(12), 0);
    }

    private static void yields() {
        due.by("yields yes | no (yes without)");
        DebateHouse house = new DebateHouse();
        due.is("told(13)", house.told(13), 1);
        Due.rules(house, "yields no;");
        due.is("told(13) of no", house.told(13), 0);
        Due.rules(house, "yields yes;");
        due.is("told(13) of yes", house.told(13), 1);
        Due.rules(house, "yields no;");
        Due.rules(house, "time 1;");
        due.is("told(13) without", house.told(13), 1);
    }

    private static void onceAtMost() {
        due.by("Each KIND, each other clause once at most");
        String[] others = {"time 5;", "quorum 5;", "turns members;", "turns schools;", "yields yes;", "yields no;"};
        for (String clause : others) {
            wasTold(clause + clause, clause.length());
            wasTold(clause + "  " + clause, clause.length() + 2);
        }
        cantBeSo("time 5;times 5;", 7);
        cantBeSo("yields no;yieldsx no;", 10);
        cantBeSo("motion main rank 5 pass half;motion mains rank 5 pass half;", 36);
        wasTold("turns schools;turns members;", 14);
        wasTold("yields no;yields yes;", 10);
        StringBuilder all = new StringBuilder();
        for (String kind : KINDS) {
            String clause = "motion " + kind + " rank 5 pass half;";
            wasTold(clause + clause, clause.length() + 7);
            wasTold(clause + "motion   " + kind + " rank 6 pass chair;", clause.length() + 9);
            all.append(clause);
        }
        for (String kind : KINDS) {
            wasTold(all + "motion " + kind + " rank 5 pass half;", all.length() + 7);
        }
        DebateHouse house = new DebateHouse();
        String each = all + "time 5;quorum 5;turns members;yields yes;";
        due.is("each of them once", Due.rules(house, each), 0);
        due.is("in place of those ahead: once again", Due.rules(house, each), 0);
    }

    private static void firstFault() {
        due.by("FAULTS: the first one is told");
        notAsTold("time 0;time 0;", 5);
        wasTold("time 5;time 0;", 7);
        wasTold("time 5;time x;", 7);
        wasTold("time 5;time", 7);
        notAsTold("motion main rank 100 second second", 17);
        cantBeSo("time x;time 0;", 5);
        wasTold("motion main rank 5 pass half;motion main", 36);
        cantBeSo("yields no;x;yields no;", 10);
    }

    private static void withoutClauses() {
        due.by("(A text without CLAUSES has none.)");
        for (int length : new int[] {0, 1, 19, 20, 21, 600}) {
            DebateHouse house = new DebateHouse();
            Due.rules(house, "time 5;quorum 5;turns schools;yields no;motion main rank 5 pass half;");
            due.is("rules of " + length + " blanks", Due.rules(house, " ".repeat(length)), 0);
            due.is("told(10)", house.told(10), 60);
            due.is("told(11)", house.told(11), 0);
            due.is("told(12)", house.told(12), 0);
            due.is("told(13)", house.told(13), 1);
            due.is("told(0)", house.told(0), 0);
            due.is("told(20)", house.told(20), -1);
        }
    }

    private static void theyStay() {
        due.by("0, or its FAULT (they stay)");
        String told = "time 5;quorum 6;turns schools;yields no;motion main rank 7 pass chair;";
        String[] faults = {"time 1;quorum 2;turns members;yields yes;motion main rank 1 pass half;motion amend rank 1 pass half",
            "turns members;yields yes;motion main rank 1 pass half;time 1;quorum 25;",
            "turns members;yields yes;motion main rank 1 pass half;time 1;quorum 2;time 3;"};
        for (int n = 0; n < faults.length; n++) {
            DebateHouse house = new DebateHouse();
            due.is("rules", Due.rules(house, told), 0);
            due.is("FAULT of '" + faults[n] + "'", Due.rules(house, faults[n]) % 4, 1 + n);
            int[][] rows = {{10, 5}, {11, 6}, {12, 1}, {13, 0}, {0, 7}, {20, 3}, {1, 0}, {21, -1}, {30, 0}};
            for (int[] row : rows) {
                due.is("told(" + row[0] + ")", house.told(row[0]), row[1]);
            }
            due.is("TIME", house.state(4), 5);
        }
    }

    private static void told() {
        due.by("NONE for others; 30: bytes of the TAPE");
        DebateHouse house = new DebateHouse();
        Due.feed(house, "time 5;");
        for (int what = -40; what <= 80; what++) {
            boolean rank = what >= 0 && what <= 7;
            int want = rank || what == 11 || what == 12 ? 0 : what == 10 ? 60 : what == 13 ? 1 : what == 30 ? 7 : -1;
            due.is("told(" + what + ")", house.told(what), want);
        }
        for (int what : new int[] {MIN, MIN + 20, MAX, 1 << 16, 256}) {
            due.is("told(" + what + ")", house.told(what), -1);
        }
    }
}

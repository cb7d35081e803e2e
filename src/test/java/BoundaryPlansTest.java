import java.util.function.Supplier;

/** Promises 28 to 36, instalments, cases alike, slips: each sentence that names a boundary, at it and on each side. */
public final class BoundaryPlansTest {
    private static final int BAD = Boundary.BAD, NO = Boundary.NO, FULL = Boundary.FULL, NONE = Boundary.NONE;
    private static final int NOTHING = Boundary.NOTHING, LOW = Boundary.LOW, HIGH = Boundary.HIGH;
    private static final int GUESS = 0, JOIN = 4, GAP = 11, TERM = 12, NEED = 13, SHARE = 14, SLACK = 15;
    private static final int INCOME = 0, NEEDY = 1, WEALTH = 2, DEBT = 3;

    private static void sentence(int promise, String words) {
        Boundary.sentence(promise, words);
    }

    private static void due(String what, int got, int want) {
        Boundary.due(what, got, want);
    }

    /** One judgment of so many coins (up to 9999), with rooms of so many coins, due so many days behind today. */
    private static DayFines owing(int coins, int room, int term) {
        DayFines x = Boundary.judged(1, coins);
        x.rule(GUESS, room);
        x.rule(NEED, 0);
        x.rule(SHARE, 100);
        x.rule(TERM, term);
        return x;
    }

    // ---- promise 28

    private static void p28_arguments() {
        sentence(28, "THE LEVEL of a PERSON (0, if nothing is UNPAID). BAD; NO: there is none.");
        Boundary.outside("person", 0, 4, Boundary::busy, DayFines::level, BAD);
        due("nobody at all", new DayFines().level(0), BAD);
        due("no judgment", Boundary.busy().level(4), 0);
        due("a coin is unpaid", owing(1, 9999, 365).level(0), 1);
        DayFines paid = owing(500, 100, 365);
        paid.pay(0, 499);
        due("one is left", paid.level(0), 1);
        paid.pay(0, 1);
        due("none is left", paid.level(0), 0);
        DayFines poor = owing(500, 0, 365);
        due("no room", poor.level(0), NO);
        poor.pay(0, 500);
        due("no room, and nothing unpaid", poor.level(0), 0);
        Boundary.unchanged("an answer", Boundary::busy, x -> x.level(0));
        Boundary.refused("there is none", () -> owing(500, 0, 365), x -> x.level(0), NO);
    }

    private static void p28_months() {
        sentence(28, "MONTH m (0 .. 23) is on day TODAY and 30 m");
        int[][] rows = {{0, 1}, {1, 1}, {29, 1}, {30, 2}, {31, 2}, {59, 2}, {60, 3}, {61, 3}, {659, 22}, {660, 23}, {661, 23},
            {689, 23}, {690, 24}, {691, 24}, {719, 24}, {720, 24}, {3000, 24}};
        for (int[] row : rows) {
            String term = "TERM " + row[0];
            due(term, owing(9600, 9999, row[0]).level(0), (9600 + row[1] - 1) / row[1]);
            due(term + ", all rooms", owing(10 * row[1], 10, row[0]).level(0), 10);
            due(term + ", a coin too many", owing(10 * row[1] + 1, 10, row[0]).level(0), NO);
            due(term + ", a coin less", owing(10 * row[1] - 1, 10, row[0]).level(0), row[1] == 1 ? 9 : 10);
        }
    }

    private static void p28_dueDay() {
        sentence(28, "if each is paid in whole in a MONTH that is on its DUE day at the latest");
        int[][] rows = {{0, 100}, {1, 150}, {30, 150}, {31, 300}, {59, 300}, {60, 300}, {61, NO}, {100, NO}};
        for (int[] row : rows) {
            DayFines x = owing(300, 999, 60);
            Boundary.go(x, row[0]);
            due("due in 60 days, " + row[0] + " days behind", x.level(0), row[1]);
        }
    }

    private static void p28_least() {
        sentence(28, "THE LEVEL: the least with which it HOLDS.");
        int[][] rows = {{1, 1}, {2, 1}, {3, 1}, {4, 2}, {6, 2}, {7, 3}, {299, 100}, {300, 100}, {301, 101}, {303, 101}};
        for (int[] row : rows) due(row[0] + " in three months", owing(row[0], 999, 60).level(0), row[1]);
        // rooms of 10, 100, 100: what the first one lacks the others pay
        int[][] lean = {{29, 10}, {30, 10}, {31, 11}, {32, 11}, {33, 12}, {209, 100}, {210, 100}, {211, NO}};
        for (int[] row : lean) {
            DayFines x = owing(row[0], 100, 60);
            x.fact(0, DEBT, 0, 90, 0);
            x.fact(0, DEBT, 0, 0, 1);
            due("first room", x.room(0, 0), 10);
            due("other rooms", x.room(0, 2), 100);
            due(row[0] + " with a lean month", x.level(0), row[1]);
        }
    }

    /** Judgments of 300 coins due on day 100, and of so many due on day 110; today is day 20, with months on 20, 50, 80, 110. */
    private static DayFines two(int second, int room) {
        DayFines x = Boundary.court("days 1 sum 300 hours u", 0);
        Boundary.widen(x);
        x.rule(GUESS, room);
        x.rule(NEED, 0);
        x.rule(SHARE, 100);
        Boundary.go(x, 10);
        x.deed(0, 0, 0, 1);
        x.judge(0);
        Boundary.go(x, 10);
        Boundary.law(x, "days 1 sum " + second + " hours u");
        x.deed(0, 0, 0, 1);
        x.judge(0);
        x.rule(TERM, 90);
        return x;
    }

    private static void p28_dueFirst() {
        sentence(28, "to the JUDGMENT DUE first, of several the lesser number, then the next one");
        due("the first needs 100 a month", two(1, 999).level(0), 100);
        due("100 more are in the fourth month", two(100, 999).level(0), 100);
        due("a coin more needs 101", two(101, 999).level(0), 101);
        due("all four of 125", two(200, 999).level(0), 125);
        due("rooms of 100", two(100, 100).level(0), 100);
        due("rooms of 100, a coin more", two(101, 100).level(0), NO);
        due("rooms of 99", two(1, 99).level(0), NO);
        int[] rows = {100, 100, 100, 100, 0};
        DayFines x = two(100, 999);
        for (int m = 0; m < 5; m++) due("month " + m, x.month(0, m), rows[m]);
        DayFines paid = two(100, 999);
        paid.pay(0, 300);
        due("the first is paid", paid.level(0), 25);
        DayFines second = two(100, 999);
        second.pay(1, 100);
        due("the second is paid", second.level(0), 100);
        due("in three months", second.month(0, 3), 0);
        DayFines same = Boundary.judged(1, 300);
        same.deed(0, 0, 0, 1);
        same.judge(0);
        same.rule(NEED, 0);
        same.rule(TERM, 60);
        due("both due on one day", same.level(0), 200);
    }

    private static void p28_whichOnes() {
        sentence(28, "for all JUDGMENTS of that one with UNPAID coins that are not TURNED");
        DayFines x = two(100, 999);
        x.person(0);
        due("of another one", x.level(1), 0);
        x.rule(GAP, 0);
        for (int i = 0; i < 2; i++) x.step(0);
        due("warned", x.level(0), 100);
        x.step(0);
        due("turned", x.level(0), 25);
        for (int i = 0; i < 3; i++) x.step(1);
        due("both turned", x.level(0), 0);
        due("turned, and nothing to pay", x.month(0, 0), 0);
        DayFines late = two(100, 999);
        Boundary.go(late, 81);
        due("one is late", late.level(0), NO);
        late.pay(0, 300);
        due("the late one is paid", late.level(0), 100);
    }

    // ---- promise 29

    private static void p29_month() {
        sentence(29, "What MONTH m (0 .. 23) pays with THE LEVEL. BAD; NO.");
        Supplier<DayFines> all = () -> owing(2399, 999, 690);
        Boundary.range("m", 0, 23, all, (x, v) -> x.month(0, v), v -> v < 23 ? 100 : 99);
        Boundary.outside("person", 0, 4, Boundary::busy, (x, v) -> x.month(v, 0), BAD);
        Supplier<DayFines> none = () -> owing(500, 0, 365);
        for (int m : new int[] {0, 1, 22, 23}) due("no level, month " + m, none.get().month(0, m), NO);
        Boundary.refused("no level", none, x -> x.month(0, 0), NO);
        Boundary.refused("no level: month 24", none, x -> x.month(0, 24), BAD);
        Boundary.refused("no level: month -1", none, x -> x.month(0, -1), BAD);
        Boundary.refused("no level: person", none, x -> x.month(1, 0), BAD);
        Boundary.unchanged("an answer", Boundary::busy, x -> x.month(0, 0));
        for (int m = 0; m < 24; m++) due("nothing is unpaid, month " + m, Boundary.people(0).month(0, m), 0);
    }

    private static void p29_pays() {
        sentence(29, "With a LEVEL each MONTH pays ROOM, LEVEL at most, and what is UNPAID at most");
        int[] coins = {299, 300, 301, 302};
        int[][] want = {{100, 100, 99}, {100, 100, 100}, {101, 101, 99}, {101, 101, 100}};
        for (int i = 0; i < 4; i++) {
            DayFines x = owing(coins[i], 999, 60);
            for (int m = 0; m < 24; m++) due(coins[i] + ", month " + m, x.month(0, m), m < 3 ? want[i][m] : 0);
        }
        DayFines lean = owing(211, 100, 90);
        lean.fact(0, DEBT, 0, 90, 30);
        lean.fact(0, DEBT, 0, 0, 60);
        due("level", lean.level(0), 67);
        int[] pays = {67, 10, 67, 67, 0};
        for (int m = 0; m < 5; m++) due("a lean month 1, month " + m, lean.month(0, m), pays[m]);
        DayFines both = owing(3, 999, 60);
        both.person(0);
        both.rule(JOIN, 100);
        both.deed(0, 1, 0, 1);
        both.deed(0, 1, 0, 1);
        both.judge(1);
        for (int m = 0; m < 4; m++) due("what another one owes is not paid, month " + m, both.month(0, m), m < 3 ? 1 : 0);
        int[] hers = {2, 2, 2, 0};
        for (int m = 0; m < 4; m++) due("what the other one pays, month " + m, both.month(1, m), hers[m]);
        both.deed(0, 0, 0, 1);
        both.judge(0);
        both.rule(GAP, 0);
        for (int i = 0; i < 3; i++) both.step(2);
        for (int m = 0; m < 4; m++) due("what is turned is not paid, month " + m, both.month(0, m), m < 3 ? 1 : 0);
        DayFines early = owing(3, 999, 690);
        int[] ones = {1, 1, 1, 0};
        for (int m = 0; m < 4; m++) due("3 with level 1, month " + m, early.month(0, m), ones[m]);
    }

    // ---- promise 30

    private static void p30_arguments() {
        sentence(30, "ROOM of MONTH m. BAD.");
        Boundary.range("m", 0, 23, Boundary::busy, (x, v) -> x.room(4, v), v -> 350);
        Boundary.range("person", 0, 4, Boundary::busy, (x, v) -> x.room(v, 0), v -> v == 0 ? 2850 : v == 1 ? 325 : v == 3 ? 1933 : 350);
        Boundary.unchanged("an answer", Boundary::busy, x -> x.room(0, 0));
        due("without a level", owing(500, 7, 0).room(0, 23), 7);
    }

    private static void p30_day() {
        sentence(30, "what the PERSON EARNS on that day AS KNOWN TODAY");
        for (int m : new int[] {1, 2, 23}) {
            for (int off = -1; off <= 1; off++) {
                DayFines x = owing(1, 500, 365);
                Boundary.go(x, 7);
                x.fact(0, INCOME, 1, 900, 7 + 30 * m + off);
                due("a fact " + off + " days off month " + m, x.room(0, m), off <= 0 ? 900 : 500);
                due("the month ahead", x.room(0, m - 1), 500);
            }
        }
        DayFines last = Boundary.people(0);
        last.fact(0, INCOME, 0, 500, 3000);
        Boundary.go(last, 2970);
        due("day 2970", last.room(0, 0), 350);
        due("day 3000", last.room(0, 1), 100);
        due("beyond day 3000", last.room(0, 2), 100);
        due("far beyond day 3000", last.room(0, 23), 100);
        DayFines couple = Boundary.people(0, 3);
        couple.fact(1, WEALTH, 0, 96000, 30);
        couple.couple(0, 1);
        couple.rule(SHARE, 100);
        due("a couple, month 0", couple.room(0, 0), 700);
        due("a couple, month 1", couple.room(0, 1), 2500 - 300);
    }

    private static void p30_atLeast() {
        sentence(30, "less NEED times (1 and NEEDY), less DEBT, 0 at least");
        int[][] rows = {{1000, 0, 0, 0, 1000}, {1000, 999, 0, 0, 1}, {1000, 1000, 0, 0, 0}, {1000, 1001, 0, 0, 0},
            {1000, 499, 1, 0, 2}, {1000, 500, 1, 0, 0}, {1000, 501, 1, 0, 0}, {1000, 99, 9, 0, 10}, {1000, 100, 9, 0, 0},
            {1000, 101, 9, 0, 0}, {1000, 0, 9, 999, 1}, {1000, 0, 0, 1000, 0}, {1000, 0, 0, 1001, 0}, {1000, 300, 1, 399, 1},
            {1000, 300, 1, 400, 0}, {1000, 300, 1, 401, 0}, {99999, 9999, 9, 0, 9}, {99999, 9999, 9, 99999, 0},
            {0, 9999, 9, 99999, 0}, {0, 0, 0, 0, 0}, {99999, 0, 0, 0, 99999}};
        for (int[] row : rows) {
            DayFines x = Boundary.people(0);
            x.rule(SHARE, 100);
            x.fact(0, INCOME, 0, row[0], 0);
            x.rule(NEED, row[1]);
            x.fact(0, NEEDY, 0, row[2], 0);
            x.fact(0, DEBT, 0, row[3], 0);
            due(row[0] + " less " + row[1] + " for 1 and " + row[2] + " less " + row[3], x.room(0, 0), row[4]);
        }
    }

    private static void p30_share() {
        sentence(30, "SHARE hundredths of that, cut");
        int[][] rows = {{0, 1000, 0}, {1, 99, 0}, {1, 100, 1}, {1, 199, 1}, {50, 1, 0}, {50, 2, 1}, {50, 3, 1}, {99, 100, 99},
            {99, 1, 0}, {100, 1, 1}, {100, 99999, 99999}, {99, 99999, 98999}};
        for (int[] row : rows) {
            DayFines x = owing(1, row[1], 365);
            x.rule(SHARE, row[0]);
            due(row[0] + " hundredths of " + row[1], x.room(0, 0), row[2]);
        }
    }

    // ---- promise 31

    private static DayFines waiting(int many) {
        DayFines x = Boundary.people(0);
        for (int i = 0; i < many; i++) x.tell(0);
        return x;
    }

    private static void p31_thirty() {
        sentence(31, "One more number waits: how many. FULL: 30 wait.");
        due("the first", waiting(0).tell(5), 1);
        due("the 29th", waiting(28).tell(5), 29);
        due("the 30th", waiting(29).tell(5), 30);
        Boundary.refused("the 31st", () -> waiting(30), x -> x.tell(5), FULL);
        due("how many", waiting(31).count(6), 30);
        for (int v : new int[] {LOW, -1, 0, 1, HIGH, BAD, FULL}) due("any number", waiting(0).tell(v), 1);
        DayFines x = waiting(30);
        x.check(0);
        due("there is room again", x.tell(5), 1);
    }

    // ---- promise 32

    private static int checked(DayFines x, int person, int... rows) {
        for (int row : rows) x.tell(row);
        int answer = x.check(person);
        due("none wait then", x.count(6), 0);
        return answer;
    }

    private static void p32_rows() {
        sentence(32, "else 1 and how many stand right ahead of the first that is not (or is missing, or one too many)");
        Supplier<DayFines> x = () -> owing(299, 999, 60);
        due("rows", checked(x.get(), 0, 100, 100, 99), 0);
        due("the first is missing", checked(x.get(), 0), 1);
        due("the second is missing", checked(x.get(), 0, 100), 2);
        due("the third is missing", checked(x.get(), 0, 100, 100), 3);
        due("one too many", checked(x.get(), 0, 100, 100, 99, 0), 4);
        due("two too many", checked(x.get(), 0, 100, 100, 99, 0, 0), 4);
        for (int off : new int[] {-1, 1}) {
            due("the first is " + off + " off", checked(x.get(), 0, 100 + off, 100, 99), 1);
            due("the second is " + off + " off", checked(x.get(), 0, 100, 100 + off, 99), 2);
            due("the third is " + off + " off", checked(x.get(), 0, 100, 100, 99 + off), 3);
        }
        due("the first that is not", checked(x.get(), 0, 100, 9, 9), 2);
        due("far off", checked(x.get(), 0, LOW, 100, 99), 1);
        int[] thirty = new int[30];
        java.util.Arrays.fill(thirty, 1);
        due("30 for 24", checked(owing(24, 999, 690), 0, thirty), 25);
        due("24 for 24", checked(owing(24, 999, 690), 0, java.util.Arrays.copyOf(thirty, 24)), 0);
        due("25 for 24", checked(owing(24, 999, 690), 0, java.util.Arrays.copyOf(thirty, 25)), 25);
        due("23 for 24", checked(owing(24, 999, 690), 0, java.util.Arrays.copyOf(thirty, 23)), 24);
    }

    private static void p32_lastThatPays() {
        sentence(32, "ROWS: of each MONTH up to the last one that pays, what it pays.");
        due("nothing is unpaid, no row", checked(Boundary.people(0), 0), 0);
        due("nothing is unpaid, a row of 0", checked(Boundary.people(0), 0, 0), 1);
        Supplier<DayFines> gap = () -> {
            DayFines x = owing(20, 10, 90);
            x.fact(0, DEBT, 0, 10, 30);
            x.fact(0, DEBT, 0, 0, 90);
            return x;
        };
        due("months without room are rows", checked(gap.get(), 0, 10, 0, 0, 10), 0);
        due("they may not be left out", checked(gap.get(), 0, 10, 10), 2);
        due("no row behind the last", checked(gap.get(), 0, 10, 0, 0, 10, 0), 5);
        DayFines both = gap.get();
        both.person(0);
        due("rows of one", checked(both, 0, 10, 0, 0, 10), 0);
        due("no row of the other one", checked(both, 1), 0);
        due("a row of the other one is too many", checked(both, 1, 10), 1);
    }

    private static void p32_usedUp() {
        sentence(32, "The numbers that wait (none do then, whatever is answered) are ROWS of THE LEVEL: 0");
        Supplier<DayFines> quiet = () -> {
            DayFines x = Boundary.busy();
            x.check(0);
            return x;
        };
        Boundary.outside("person", 0, 4, quiet, (x, v) -> {
            x.tell(5);
            x.tell(6);
            return x.check(v);
        }, BAD);
        Supplier<DayFines> none = () -> owing(500, 0, 365);
        Boundary.refused("no level", none, x -> {
            x.tell(5);
            return x.check(0);
        }, NO);
        Boundary.refused("no level, none wait", none, x -> x.check(0), NO);
        Boundary.refused("no level: person", none, x -> x.check(1), BAD);
        due("rows of busy", Boundary.busy().check(0), 0);
        Boundary.unchanged("right rows", quiet, x -> {
            Boundary.tellRows(x, 0);
            return x.check(0);
        });
        Boundary.unchanged("wrong rows", quiet, x -> {
            x.tell(-1);
            return x.check(0);
        });
        DayFines x = Boundary.busy();
        x.check(9);
        due("none wait behind BAD", x.count(6), 0);
        due("so the first is missing", x.check(0), 1);
    }

    // ---- promise 33

    /** Two judgments of people of two kinds, of deeds of kinds and weights in turn. */
    private static DayFines cases(int kind, int[] one, int otherKind, int[] other) {
        DayFines x = Boundary.court("days g sum 1 hours 1", kind, otherKind);
        for (int i = 0; i < one.length; i += 2) x.deed(one[i], 0, 0, one[i + 1]);
        for (int i = 0; i < other.length; i += 2) x.deed(other[i], 1, 0, other[i + 1]);
        x.judge(0);
        x.judge(1);
        return x;
    }

    private static void alike(String what, DayFines x, int want) {
        due(what, x.alike(0, 1), want);
        due(what + ", the other way", x.alike(1, 0), want);
    }

    private static void p33_weights() {
        sentence(33, "with WEIGHTS together 5 apart at most");
        for (int apart = -7; apart <= 7; apart++) {
            int want = Math.abs(apart) <= 5 ? 1 : 0;
            alike("one deed, " + apart + " apart", cases(0, new int[] {0, 50}, 0, new int[] {0, 50 + apart}), want);
            alike("two deeds, " + apart + " apart", cases(0, new int[] {0, 1, 0, 99}, 0, new int[] {0, 50, 0, 50 + apart}), want);
            alike("two kinds, " + apart + " apart", cases(0, new int[] {1, 10, 3, 40}, 0, new int[] {3, 10, 1, 40 + apart}), want);
        }
    }

    private static void p33_kinds() {
        sentence(33, "ALIKE are two JUDGMENTS of as many DEEDS, of each KIND as many");
        for (int a = 0; a < 4; a++) {
            for (int b = 0; b < 4; b++) {
                int want = a == b ? 1 : 0;
                alike("kinds " + a + ", " + b, cases(0, new int[] {a, 9}, 0, new int[] {b, 9}), want);
                alike("kinds 0 " + a + ", " + b + " 0", cases(0, new int[] {0, 9, a, 9}, 0, new int[] {b, 9, 0, 9}), want);
                alike("kind " + a + " with " + b + " more", cases(0, new int[] {a, 9}, 0, new int[] {a, 5, b, 4}), 0);
            }
        }
        int[] fifteen = new int[30];
        for (int i = 0; i < 30; i += 2) {
            fifteen[i] = i / 2 % 4;
            fifteen[i + 1] = 10;
        }
        alike("15 deeds and 15", cases(0, fifteen, 0, fifteen), 1);
        int[] other = fifteen.clone();
        other[28] = 3;
        alike("15 deeds and 15, the last of another kind", cases(0, fifteen, 0, other), 0);
        other = fifteen.clone();
        other[29] = 16;
        alike("15 deeds and 15, the last of 6 more", cases(0, fifteen, 0, other), 0);
        alike("15 deeds and 14", cases(0, fifteen, 0, java.util.Arrays.copyOf(fifteen, 28)), 0);
        alike("twice and once", cases(0, new int[] {1, 9, 1, 9, 2, 9}, 0, new int[] {1, 9, 2, 9, 2, 9}), 0);
    }

    private static void p33_young() {
        sentence(33, "both YOUNG or both not");
        boolean[] young = {false, true, true, false};
        for (int a = 0; a < 4; a++) {
            for (int b = 0; b < 4; b++) {
                int want = young[a] == young[b] ? 1 : 0;
                alike("people of " + a + ", " + b, cases(a, new int[] {1, 9}, b, new int[] {1, 9}), want);
            }
        }
    }

    private static void p33_bad() {
        sentence(33, "Whether two JUDGMENTS are ALIKE: 1, 0. BAD: also if they are one.");
        Boundary.outside("one", 0, 2, Boundary::busy, (x, v) -> x.alike(v, 1), BAD);
        Boundary.outside("other", 0, 2, Boundary::busy, (x, v) -> x.alike(1, v), BAD);
        for (int j = 0; j < 3; j++) {
            int same = j;
            Boundary.refused("they are one", Boundary::busy, x -> x.alike(same, same), BAD);
        }
        Boundary.refused("neither is there", Boundary::busy, x -> x.alike(3, 3), BAD);
        due("two", Boundary.busy().alike(0, 1), 0);
        due("the last two", Boundary.busy().alike(1, 2), 0);
        Boundary.unchanged("an answer", Boundary::busy, x -> x.alike(0, 1));
    }

    // ---- promise 34

    /** Judgments of one deed each, of kinds and weights in turn, with as many days as weight. */
    private static DayFines row(int... deeds) {
        DayFines x = Boundary.court("days g sum 1 hours 1", 0);
        for (int i = 0; i < deeds.length; i += 2) {
            x.deed(deeds[i], 0, 0, deeds[i + 1]);
            x.judge(0);
        }
        return x;
    }

    private static void p34_unlike() {
        sentence(34, "the two that are ALIKE with DAYS farthest apart; of several the first (by the lesser, then the greater number)");
        due("two", row(0, 10, 0, 11).unlike(), 1);
        due("4 apart, then 5", row(0, 10, 0, 14, 0, 9).unlike(), 102);
        due("6 apart are not alike", row(0, 10, 0, 16).unlike(), NONE);
        due("6 apart are not alike, 5 are", row(0, 10, 0, 16, 0, 11).unlike(), 102);
        due("of several, by the lesser", row(0, 10, 0, 12, 0, 10, 0, 12).unlike(), 1);
        due("of several, by the greater", row(0, 10, 0, 10, 0, 12, 0, 12).unlike(), 2);
        due("farther counts, not first", row(0, 10, 0, 12, 0, 13).unlike(), 2);
        due("of another kind", row(0, 10, 1, 15, 0, 11).unlike(), 2);
        int[] last = new int[32];
        for (int j = 0; j < 16; j++) last[2 * j + 1] = j < 14 ? 20 : 40 + j;
        due("the last two", row(last).unlike(), 1415);
        DayFines days = row(0, 10, 0, 10, 0, 10);
        days.appeal(2, 0, 11);
        due("by DAYS as they are", days.unlike(), 2);
        days.appeal(1, 0, 9);
        due("by DAYS, below and above", days.unlike(), 102);
        Boundary.unchanged("an answer", Boundary::busy, DayFines::unlike);
    }

    private static void p34_none() {
        sentence(34, "none, if none differ");
        due("without any", new DayFines().unlike(), NONE);
        due("one alone", row(0, 10).unlike(), NONE);
        due("two that do not differ", row(0, 10, 0, 10).unlike(), NONE);
        due("two that differ, not alike", row(0, 10, 1, 11).unlike(), NONE);
        due("two that differ by a day", row(0, 10, 0, 11).unlike(), 1);
        sentence(34, "UNLIKE: 100 * the lesser and the greater number; NONE.");
        due("0 and 1", row(0, 10, 0, 11).unlike(), 1);
        due("1 and 2", row(1, 10, 0, 11, 0, 12).unlike(), 102);
    }

    // ---- promise 35

    private static void p35_spread() {
        sentence(35, "Of SHAREs (what 0), of FLAT ones (1), of all JUDGMENTS: the greatest less the least (0 without any). BAD.");
        Boundary.range("what", 0, 1, Boundary::busy, (x, v) -> x.spread(v), v -> v == 0 ? 808 - 100 : 300 - 100);
        due("without any", Boundary.people(0).spread(0), 0);
        due("without any, flat", Boundary.people(0).spread(1), 0);
        due("of one", row(0, 10).spread(0), 0);
        due("of two alike", row(0, 10, 0, 10).spread(0), 0);
        due("of two", row(0, 10, 0, 11).spread(0), 1);
        due("of two, turned about", row(0, 11, 0, 10).spread(0), 1);
        due("of three", row(0, 11, 0, 10, 0, 13).spread(0), 3);
        due("of three, the least last", row(0, 11, 0, 13, 0, 10).spread(0), 3);
        DayFines x = row(0, 10, 1, 11, 2, 12);
        due("no flats", x.spread(1), 0);
        x.flat(2, 7);
        due("one flat", x.spread(1), 7);
        x.flat(0, 5);
        x.flat(1, 6);
        due("three flats", x.spread(1), 2);
        DayFines most = Boundary.judged(999, 9999);
        most.rule(GUESS, 0);
        due("of one at most", most.spread(0), 0);
        Boundary.law(most, "days 0 sum 0 hours 0");
        most.deed(0, 0, 0, 1);
        most.judge(0);
        due("from none to the most", most.spread(0), 9999999);
        Boundary.unchanged("an answer", Boundary::busy, y -> y.spread(0));
    }

    // ---- promise 36

    private static DayFines slip(int... places) {
        DayFines x = Boundary.people(0);
        x.sheet(0, places.length);
        for (int i = 0; i < places.length; i++) x.mark(0, i, places[i]);
        return x;
    }

    private static void p36_places() {
        sentence(36, "the first place at which that is not so, or pay is below 0");
        due("no place", slip().slip(0, 0), NONE);
        due("pay alone", slip(7).slip(0, 0), NONE);
        due("pay 0", slip(0).slip(0, 0), NONE);
        due("pay -1", slip(-1).slip(0, 0), 0);
        due("pay far below 0", slip(LOW).slip(0, 0), 0);
        due("all so far", slip(7, 7).slip(0, 0), NONE);
        due("one less", slip(7, 6).slip(0, 0), 1);
        due("one more", slip(7, 8).slip(0, 0), 1);
        due("all so far of two", slip(7, 7, 2, 9).slip(0, 0), NONE);
        due("all so far of two, less", slip(7, 7, 2, 8).slip(0, 0), 3);
        due("all so far of two, more", slip(7, 7, 2, 10).slip(0, 0), 3);
        due("pay alone at the end", slip(7, 7, 2).slip(0, 0), NONE);
        due("pay below 0 at the end", slip(7, 7, -1).slip(0, 0), 2);
        due("pay below 0, and so all", slip(7, 7, -1, 6).slip(0, 0), 2);
        due("the first of two faults", slip(7, 6, -1, 6).slip(0, 0), 1);
        due("all so far, no more by faults", slip(7, 0, 2, 9).slip(0, 0), 1);
        due("the most pay", slip(HIGH, HIGH, 0, HIGH).slip(0, 0), NONE);
        due("beyond an int", slip(HIGH, HIGH, 1, LOW).slip(0, 0), 3);
    }

    /** A slip of so many places, of equal pay, but for the last pay, which is so much more. */
    private static DayFines year(int places, int pay, int more) {
        int[] all = new int[places];
        int soFar = 0;
        for (int i = 0; i < places; i++) {
            int here = pay + (i == 22 ? more : 0);
            if (i % 2 == 0) soFar += here;
            all[i] = i % 2 == 0 ? here : soFar;
        }
        return slip(all);
    }

    private static void p36_year() {
        sentence(36, "else, if it has 24 places, 23, if all pay is more than SLACK away from 12 times INCOME of the PERSON TODAY AS KNOWN TODAY");
        due("as much", year(24, 1000, 0).slip(0, 0), NONE);
        due("a coin more", year(24, 1000, 1).slip(0, 0), 23);
        due("a coin less", year(24, 1000, -1).slip(0, 0), 23);
        for (int slack : new int[] {1, 10, 999}) {
            for (int off = -1; off <= 1; off++) {
                DayFines more = year(24, 1000, slack + off);
                DayFines less = year(24, 1000, -slack - off);
                more.rule(SLACK, slack);
                less.rule(SLACK, slack);
                due("SLACK " + slack + ", more", more.slip(0, 0), off > 0 ? 23 : NONE);
                due("SLACK " + slack + ", less", less.slip(0, 0), off > 0 ? 23 : NONE);
            }
        }
        due("23 places", year(23, 5, 0).slip(0, 0), NONE);
        due("22 places", year(22, 5, 0).slip(0, 0), NONE);
        due("24 places", year(24, 5, 0).slip(0, 0), 23);
        DayFines fault = year(24, 5, 0);
        fault.mark(0, 23, 61);
        due("place 23 is a fault by itself", fault.slip(0, 0), 23);
        fault.mark(0, 22, -1);
        due("place 22 stands first", fault.slip(0, 0), 22);
        DayFines most = year(24, 99999, 0);
        most.fact(0, INCOME, 0, 99999, 0);
        due("the most", most.slip(0, 0), NONE);
        DayFines zero = year(24, 0, 0);
        zero.fact(0, INCOME, 0, 0, 0);
        due("nothing", zero.slip(0, 0), NONE);
    }

    private static void p36_income() {
        sentence(36, "12 times INCOME of the PERSON TODAY AS KNOWN TODAY");
        for (int from = 4; from <= 6; from++) {
            DayFines x = year(24, 2000, 0);
            Boundary.go(x, 5);
            x.fact(0, INCOME, 0, 2000, from);
            due("income from " + from, x.slip(0, 0), from <= 5 ? NONE : 23);
        }
        DayFines couple = year(24, 1000, 0);
        couple.person(0);
        couple.fact(1, INCOME, 0, 3000, 0);
        couple.couple(0, 1);
        due("income, not what one earns", couple.slip(0, 0), NONE);
        due("of the other one", couple.slip(1, 0), 23);
    }

    private static void p36_order() {
        sentence(36, "The FAULT of a SLIP of a PERSON; NONE. BAD; NOTHING.");
        Boundary.range("person", 0, 4, Boundary::busy, (x, v) -> x.slip(v, 0), v -> 3);
        Boundary.range("sheet", 0, 1, Boundary::busy, (x, v) -> x.slip(0, v), v -> v == 0 ? 3 : 2);
        Boundary.refused("missing, 0", () -> Boundary.people(0), x -> x.slip(0, 0), NOTHING);
        Boundary.refused("missing, 1", () -> Boundary.people(0), x -> x.slip(0, 1), NOTHING);
        due("the other one is missing", slip(1).slip(0, 1), NOTHING);
        Boundary.refused("missing: person", () -> Boundary.people(0), x -> x.slip(1, 0), BAD);
        Boundary.unchanged("an answer", Boundary::busy, x -> x.slip(0, 0));
    }

    public static void main(String[] args) {
        p28_arguments();
        p28_months();
        p28_dueDay();
        p28_least();
        p28_dueFirst();
        p28_whichOnes();
        p29_month();
        p29_pays();
        p30_arguments();
        p30_day();
        p30_atLeast();
        p30_share();
        p31_thirty();
        p32_rows();
        p32_lastThatPays();
        p32_usedUp();
        p33_weights();
        p33_kinds();
        p33_young();
        p33_bad();
        p34_unlike();
        p34_none();
        p35_spread();
        p36_places();
        p36_year();
        p36_income();
        p36_order();
        Boundary.end(28, 36);
    }
}
